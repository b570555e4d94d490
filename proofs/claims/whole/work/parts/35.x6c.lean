/-! THE REFERENCE: all ways -/
theorem bt0 {T : TT} {w b : List Nat} : btW T 0 w b ↔ tmS T w < tmS T b := by simp [btW, btR]
theorem bt1 {T : TT} {w b : List Nat} : btW T 1 w b ↔ (rgS T b < rgS T w ∨ (rgS T w = rgS T b ∧ tmS T w < tmS T b)) := by simp [btW, btR]
theorem bt2 {T : TT} {w b : List Nat} : btW T 2 w b ↔ (b.length < w.length ∨ (w.length = b.length ∧ tmS T b < tmS T w)) := by simp [btW, btR]
/-- those that took so long (nobody asks: none) -/
def fwS (T : TT) (xo : Option Nat) (F : List (List Nat)) : List (List Nat) := match xo with
  | none => []
  | some t => flS T (some t) F
theorem fwS_y {T : TT} {xo : Option Nat} {t : Nat} {w : List Nat} (F : List (List Nat)) (hx : xo = some t) (h : tmS T w = t) : fwS T xo (F ++ [w]) = fwS T xo F ++ [w] := by subst hx; exact flS_y F (beqT h)
theorem fwS_n {T : TT} {xo : Option Nat} {w : List Nat} (F : List (List Nat)) (h : ∀ t, xo = some t → tmS T w ≠ t) : fwS T xo (F ++ [w]) = fwS T xo F := by
  cases xo with
  | none => rfl
  | some t => exact flS_n F (beqF (h t rfl))
theorem fwS_len (T : TT) (xo : Option Nat) (F : List (List Nat)) : (fwS T xo F).length ≤ F.length := by
  cases xo with
  | none => exact Nat.zero_le _
  | some t => exact flS_len T (some t) F
def okM3 (T : TT) (Ls : List (List Nat)) (A : Nat → Nat → Nat) (n : Nat → Nat) : Prop := okW (bestS T 0 Ls) (A 0) ∧ okW (bestS T 1 Ls) (A 1) ∧ okW (bestS T 2 Ls) (A 2) ∧ (Ls ≠ [] → n 0 = tmS T (bestS T 0 Ls) ∧ n 1 = rgS T (bestS T 1 Ls) ∧ n 2 = tmS T (bestS T 1 Ls) ∧ n 3 = tmS T (bestS T 2 Ls) ∧ n 4 = (bestS T 0 Ls).length ∧ n 5 = (bestS T 1 Ls).length ∧ n 6 = (bestS T 2 Ls).length)
theorem okM3_nil (T : TT) (A : Nat → Nat → Nat) (n : Nat → Nat) : okM3 T [] A n := ⟨fun i hi => absurd hi (Nat.not_lt_zero i), fun i hi => absurd hi (Nat.not_lt_zero i), fun i hi => absurd hi (Nat.not_lt_zero i), fun h => absurd rfl h⟩
theorem okW_all {w : List Nat} {G E : Nat → Nat} (h : ∀ i, i < w.length → E i = G i) (hG : okW w G) : okW w E := fun i hi => (h i hi).trans (hG i hi)
theorem oI_x {xo : Option Nat} {t : Nat} (ht : t < 2 ^ 31) (hx : ∀ z, xo = some z → z < 2 ^ 31) : nI t = oI xo ↔ xo = some t := by
  cases xo with
  | none =>
    constructor
    · intro h
      have h2 := nI_pos ht
      rw [h] at h2
      exact absurd (by decide) h2
    · intro h; cases h
  | some z =>
    constructor
    · intro h; rw [(nI_eq ht (hx z rfl)).mp h]
    · intro h; cases h; rfl

set_option maxHeartbeats 4000000 in
set_option maxRecDepth 100000 in
theorem c_X6_take_40 (l : Launch) (D : va_G) (cI cC : ClassId) (md : Nat → Nat) (T : TT) (k tm dy : Nat) (P : TT) (pk ptm pdy hpi : Nat) (tg : Nat → Nat) (tl : Nat) (R : Nat → Nat) (sg : Nat → Nat) (sl : Nat) (u0 : ScmT) (w : List Nat) (G : Nat → Nat) (hT : TOK T) (hG : okW w G) (h1 : 1 ≤ w.length) (h8 : w.length ≤ 8) (hwn : ∀ q ∈ w, q < T 5 0) : XMv l yX6_take wsX6_take ({ frames := 0, cells := 0, slots := 0, locals := 0 } : Room) D (xT cI cC) xE0 (wM cI cC md T k tm dy P pk ptm pdy hpi tg tl R sg sl (upN u0.1 32 ((w).length), upA u0.2.1 31 G, u0.2.2)) [.ref (md 1), .ref (md 40)] (S := Nat → Nat) (fun E => okW w E) (fun E => wM cI cC md T k tm dy P pk ptm pdy hpi tg tl R sg sl (upN u0.1 32 ((w).length), upA (upA u0.2.1 31 G) 40 E, u0.2.2)) 0 0 := by
  refine xMet_v (cc := cX6_take) (nL := 3)  (by decide +kernel) rfl (Nat.le_of_ble_eq_true rfl) (fun κ A h0 hn0 hE => ?_)
  have hiX6 : ∀ w ∈ u_ws RX6 TX6 52, w ∈ wsX6_take := by decide +kernel
  refine xlv (lv' := [(0, .ref (md 1)), (1, .ref (md 40))]) [0, 1] rfl ?_
  refine xiconst (v := (nI 0)) h0 dX6_take_0 (by decide) ?_
  refine xistore_n (lv' := [(2, .int (nI 0)), (0, .ref (md 1)), (1, .ref (md 40))]) h0 dX6_take_1 rfl (by decide) rfl ?_
  have lp : ∀ (d_ : Nat) (i : Nat) (E : Nat → Nat), (9 - i ≤ d_) → (i ≤ w.length) → (∀ a, a < i → E a = w.getD a 0) → XG κ 3 D (xT cI cC) A (xQv (S := Nat → Nat) κ D (xT cI cC) A (fun E => okW w E) (fun E => wM cI cC md T k tm dy P pk ptm pdy hpi tg tl R sg sl (upN u0.1 32 ((w).length), upA (upA u0.2.1 31 G) 40 E, u0.2.2)) 0 0) (wM cI cC md T k tm dy P pk ptm pdy hpi tg tl R sg sl (upN u0.1 32 ((w).length), upA (upA u0.2.1 31 G) 40 E, u0.2.2)) 0 0 2 [(0, .ref (md 1)), (1, .ref (md 40)), (2, .int (nI i))] [] := by
    intro d_
    induction d_ with
    | zero => intro i E hm_ hi hE; exact absurd hm_ (by omega)
    | succ d_ ih_lp =>
      intro i E hm_ hi hE
      refine xiload_n h0 2 dX6_take_2 rfl rfl ?_
      refine xaload_n h0 0 dX6_take_3 rfl rfl ?_
      refine xget (C := RX6) (T := TX6) (N := 52) (ci := 6) (v := .int (nI ((w).length))) h0 hiX6 0 rfl rfl 32 (by decide) (List.mem_of_getElem? (i := 1) rfl) rfl dX6_take_4 ?_
      refine xncmp_ge (tgt := 25) h0 dX6_take_7 (by decide) (by omega) (by omega) (fun c_1 => ?_) (fun c_1 => ?_)
      · skip
        exact xvret h0 dX6_take_25 E (by intro i_ hi_; exact hE i_ (by omega)) rfl
      · skip
        refine xaload_n h0 1 dX6_take_10 rfl rfl ?_
        refine xiload_n h0 2 dX6_take_11 rfl rfl ?_
        refine xaload_n h0 0 dX6_take_12 rfl rfl ?_
        refine xget (C := RX6) (T := TX6) (N := 52) (ci := 6) (v := .ref (md 31)) h0 hiX6 0 rfl rfl 31 (by decide) (List.mem_of_getElem? (i := 2) rfl) rfl dX6_take_13 ?_
        refine xiload_n h0 2 dX6_take_16 rfl rfl ?_
        refine xiald (v := (nI (w.getD i 0))) h0 17 0 rfl rfl (by omega) (by decide) dX6_take_17 (congrArg nI (hG _ (by omega))) ?_
        refine xiastN (ws' := (wM cI cC md T k tm dy P pk ptm pdy hpi tg tl R sg sl (upN u0.1 32 ((w).length), upA (upA u0.2.1 31 G) 40 (upN E i (w.getD i 0)), u0.2.2))) h0 18 0 rfl rfl (by omega) (by decide) dX6_take_18 rfl ?_
        refine xiinc (v := (nI (i + 1))) (lv' := [(2, .int (nI (i + 1))), (0, .ref (md 1)), (1, .ref (md 40))]) h0 2 dX6_take_19 rfl (nI_add _ _) (by decide) rfl ?_
        refine xgoto (tgt := 2) h0 dX6_take_22 (by decide) ?_
        refine xlv [1, 2, 0] rfl ?_
        exact ih_lp (i + 1) (upN E i (w.getD i 0)) (by omega) (by omega) (by intro a ha; by_cases e : a = i; (subst e; exact upN_s _ _ _); (rw [upN_n _ _ e]; exact hE a (by omega)))
  refine xlv [1, 2, 0] rfl ?_
  exact lp (9) 0 (u0.2.1 40) (by omega) (by omega) (by intro a ha; exact absurd ha (Nat.not_lt_zero a))
set_option maxHeartbeats 4000000 in
set_option maxRecDepth 100000 in
theorem c_X6_take_44 (l : Launch) (D : va_G) (cI cC : ClassId) (md : Nat → Nat) (T : TT) (k tm dy : Nat) (P : TT) (pk ptm pdy hpi : Nat) (tg : Nat → Nat) (tl : Nat) (R : Nat → Nat) (sg : Nat → Nat) (sl : Nat) (u0 : ScmT) (w : List Nat) (G : Nat → Nat) (hT : TOK T) (hG : okW w G) (h1 : 1 ≤ w.length) (h8 : w.length ≤ 8) (hwn : ∀ q ∈ w, q < T 5 0) : XMv l yX6_take wsX6_take ({ frames := 0, cells := 0, slots := 0, locals := 0 } : Room) D (xT cI cC) xE0 (wM cI cC md T k tm dy P pk ptm pdy hpi tg tl R sg sl (upN u0.1 32 ((w).length), upA u0.2.1 31 G, u0.2.2)) [.ref (md 1), .ref (md 44)] (S := Nat → Nat) (fun E => okW w E) (fun E => wM cI cC md T k tm dy P pk ptm pdy hpi tg tl R sg sl (upN u0.1 32 ((w).length), upA (upA u0.2.1 31 G) 44 E, u0.2.2)) 0 0 := by
  refine xMet_v (cc := cX6_take) (nL := 3)  (by decide +kernel) rfl (Nat.le_of_ble_eq_true rfl) (fun κ A h0 hn0 hE => ?_)
  have hiX6 : ∀ w ∈ u_ws RX6 TX6 52, w ∈ wsX6_take := by decide +kernel
  refine xlv (lv' := [(0, .ref (md 1)), (1, .ref (md 44))]) [0, 1] rfl ?_
  refine xiconst (v := (nI 0)) h0 dX6_take_0 (by decide) ?_
  refine xistore_n (lv' := [(2, .int (nI 0)), (0, .ref (md 1)), (1, .ref (md 44))]) h0 dX6_take_1 rfl (by decide) rfl ?_
  have lp : ∀ (d_ : Nat) (i : Nat) (E : Nat → Nat), (9 - i ≤ d_) → (i ≤ w.length) → (∀ a, a < i → E a = w.getD a 0) → XG κ 3 D (xT cI cC) A (xQv (S := Nat → Nat) κ D (xT cI cC) A (fun E => okW w E) (fun E => wM cI cC md T k tm dy P pk ptm pdy hpi tg tl R sg sl (upN u0.1 32 ((w).length), upA (upA u0.2.1 31 G) 44 E, u0.2.2)) 0 0) (wM cI cC md T k tm dy P pk ptm pdy hpi tg tl R sg sl (upN u0.1 32 ((w).length), upA (upA u0.2.1 31 G) 44 E, u0.2.2)) 0 0 2 [(0, .ref (md 1)), (1, .ref (md 44)), (2, .int (nI i))] [] := by
    intro d_
    induction d_ with
    | zero => intro i E hm_ hi hE; exact absurd hm_ (by omega)
    | succ d_ ih_lp =>
      intro i E hm_ hi hE
      refine xiload_n h0 2 dX6_take_2 rfl rfl ?_
      refine xaload_n h0 0 dX6_take_3 rfl rfl ?_
      refine xget (C := RX6) (T := TX6) (N := 52) (ci := 6) (v := .int (nI ((w).length))) h0 hiX6 0 rfl rfl 32 (by decide) (List.mem_of_getElem? (i := 1) rfl) rfl dX6_take_4 ?_
      refine xncmp_ge (tgt := 25) h0 dX6_take_7 (by decide) (by omega) (by omega) (fun c_1 => ?_) (fun c_1 => ?_)
      · skip
        exact xvret h0 dX6_take_25 E (by intro i_ hi_; exact hE i_ (by omega)) rfl
      · skip
        refine xaload_n h0 1 dX6_take_10 rfl rfl ?_
        refine xiload_n h0 2 dX6_take_11 rfl rfl ?_
        refine xaload_n h0 0 dX6_take_12 rfl rfl ?_
        refine xget (C := RX6) (T := TX6) (N := 52) (ci := 6) (v := .ref (md 31)) h0 hiX6 0 rfl rfl 31 (by decide) (List.mem_of_getElem? (i := 2) rfl) rfl dX6_take_13 ?_
        refine xiload_n h0 2 dX6_take_16 rfl rfl ?_
        refine xiald (v := (nI (w.getD i 0))) h0 17 0 rfl rfl (by omega) (by decide) dX6_take_17 (congrArg nI (hG _ (by omega))) ?_
        refine xiastN (ws' := (wM cI cC md T k tm dy P pk ptm pdy hpi tg tl R sg sl (upN u0.1 32 ((w).length), upA (upA u0.2.1 31 G) 44 (upN E i (w.getD i 0)), u0.2.2))) h0 19 0 rfl rfl (by omega) (by decide) dX6_take_18 rfl ?_
        refine xiinc (v := (nI (i + 1))) (lv' := [(2, .int (nI (i + 1))), (0, .ref (md 1)), (1, .ref (md 44))]) h0 2 dX6_take_19 rfl (nI_add _ _) (by decide) rfl ?_
        refine xgoto (tgt := 2) h0 dX6_take_22 (by decide) ?_
        refine xlv [1, 2, 0] rfl ?_
        exact ih_lp (i + 1) (upN E i (w.getD i 0)) (by omega) (by omega) (by intro a ha; by_cases e : a = i; (subst e; exact upN_s _ _ _); (rw [upN_n _ _ e]; exact hE a (by omega)))
  refine xlv [1, 2, 0] rfl ?_
  exact lp (9) 0 (u0.2.1 44) (by omega) (by omega) (by intro a ha; exact absurd ha (Nat.not_lt_zero a))
set_option maxHeartbeats 4000000 in
set_option maxRecDepth 100000 in
theorem c_X6_take_47 (l : Launch) (D : va_G) (cI cC : ClassId) (md : Nat → Nat) (T : TT) (k tm dy : Nat) (P : TT) (pk ptm pdy hpi : Nat) (tg : Nat → Nat) (tl : Nat) (R : Nat → Nat) (sg : Nat → Nat) (sl : Nat) (u0 : ScmT) (w : List Nat) (G : Nat → Nat) (hT : TOK T) (hG : okW w G) (h1 : 1 ≤ w.length) (h8 : w.length ≤ 8) (hwn : ∀ q ∈ w, q < T 5 0) : XMv l yX6_take wsX6_take ({ frames := 0, cells := 0, slots := 0, locals := 0 } : Room) D (xT cI cC) xE0 (wM cI cC md T k tm dy P pk ptm pdy hpi tg tl R sg sl (upN u0.1 32 ((w).length), upA u0.2.1 31 G, u0.2.2)) [.ref (md 1), .ref (md 47)] (S := Nat → Nat) (fun E => okW w E) (fun E => wM cI cC md T k tm dy P pk ptm pdy hpi tg tl R sg sl (upN u0.1 32 ((w).length), upA (upA u0.2.1 31 G) 47 E, u0.2.2)) 0 0 := by
  refine xMet_v (cc := cX6_take) (nL := 3)  (by decide +kernel) rfl (Nat.le_of_ble_eq_true rfl) (fun κ A h0 hn0 hE => ?_)
  have hiX6 : ∀ w ∈ u_ws RX6 TX6 52, w ∈ wsX6_take := by decide +kernel
  refine xlv (lv' := [(0, .ref (md 1)), (1, .ref (md 47))]) [0, 1] rfl ?_
  refine xiconst (v := (nI 0)) h0 dX6_take_0 (by decide) ?_
  refine xistore_n (lv' := [(2, .int (nI 0)), (0, .ref (md 1)), (1, .ref (md 47))]) h0 dX6_take_1 rfl (by decide) rfl ?_
  have lp : ∀ (d_ : Nat) (i : Nat) (E : Nat → Nat), (9 - i ≤ d_) → (i ≤ w.length) → (∀ a, a < i → E a = w.getD a 0) → XG κ 3 D (xT cI cC) A (xQv (S := Nat → Nat) κ D (xT cI cC) A (fun E => okW w E) (fun E => wM cI cC md T k tm dy P pk ptm pdy hpi tg tl R sg sl (upN u0.1 32 ((w).length), upA (upA u0.2.1 31 G) 47 E, u0.2.2)) 0 0) (wM cI cC md T k tm dy P pk ptm pdy hpi tg tl R sg sl (upN u0.1 32 ((w).length), upA (upA u0.2.1 31 G) 47 E, u0.2.2)) 0 0 2 [(0, .ref (md 1)), (1, .ref (md 47)), (2, .int (nI i))] [] := by
    intro d_
    induction d_ with
    | zero => intro i E hm_ hi hE; exact absurd hm_ (by omega)
    | succ d_ ih_lp =>
      intro i E hm_ hi hE
      refine xiload_n h0 2 dX6_take_2 rfl rfl ?_
      refine xaload_n h0 0 dX6_take_3 rfl rfl ?_
      refine xget (C := RX6) (T := TX6) (N := 52) (ci := 6) (v := .int (nI ((w).length))) h0 hiX6 0 rfl rfl 32 (by decide) (List.mem_of_getElem? (i := 1) rfl) rfl dX6_take_4 ?_
      refine xncmp_ge (tgt := 25) h0 dX6_take_7 (by decide) (by omega) (by omega) (fun c_1 => ?_) (fun c_1 => ?_)
      · skip
        exact xvret h0 dX6_take_25 E (by intro i_ hi_; exact hE i_ (by omega)) rfl
      · skip
        refine xaload_n h0 1 dX6_take_10 rfl rfl ?_
        refine xiload_n h0 2 dX6_take_11 rfl rfl ?_
        refine xaload_n h0 0 dX6_take_12 rfl rfl ?_
        refine xget (C := RX6) (T := TX6) (N := 52) (ci := 6) (v := .ref (md 31)) h0 hiX6 0 rfl rfl 31 (by decide) (List.mem_of_getElem? (i := 2) rfl) rfl dX6_take_13 ?_
        refine xiload_n h0 2 dX6_take_16 rfl rfl ?_
        refine xiald (v := (nI (w.getD i 0))) h0 17 0 rfl rfl (by omega) (by decide) dX6_take_17 (congrArg nI (hG _ (by omega))) ?_
        refine xiastN (ws' := (wM cI cC md T k tm dy P pk ptm pdy hpi tg tl R sg sl (upN u0.1 32 ((w).length), upA (upA u0.2.1 31 G) 47 (upN E i (w.getD i 0)), u0.2.2))) h0 20 0 rfl rfl (by omega) (by decide) dX6_take_18 rfl ?_
        refine xiinc (v := (nI (i + 1))) (lv' := [(2, .int (nI (i + 1))), (0, .ref (md 1)), (1, .ref (md 47))]) h0 2 dX6_take_19 rfl (nI_add _ _) (by decide) rfl ?_
        refine xgoto (tgt := 2) h0 dX6_take_22 (by decide) ?_
        refine xlv [1, 2, 0] rfl ?_
        exact ih_lp (i + 1) (upN E i (w.getD i 0)) (by omega) (by omega) (by intro a ha; by_cases e : a = i; (subst e; exact upN_s _ _ _); (rw [upN_n _ _ e]; exact hE a (by omega)))
  refine xlv [1, 2, 0] rfl ?_
  exact lp (9) 0 (u0.2.1 47) (by omega) (by omega) (by intro a ha; exact absurd ha (Nat.not_lt_zero a))
set_option maxHeartbeats 4000000 in
set_option maxRecDepth 100000 in
theorem c_X6_one (l : Launch) (D : va_G) (cI cC : ClassId) (md : Nat → Nat) (T : TT) (k tm dy : Nat) (P : TT) (pk ptm pdy hpi : Nat) (tg : Nat → Nat) (tl : Nat) (R : Nat → Nat) (sg : Nat → Nat) (sl : Nat) (u0 : ScmT) (xo : Option Nat) (Ls : List (List Nat)) (w : List Nat) (G : Nat → Nat) (AA : Nat → Nat → Nat) (n : Nat → Nat) (hT : TOK T) (hG : okW w G) (h1 : 1 ≤ w.length) (h8 : w.length ≤ 8) (hwn : ∀ q ∈ w, q < T 5 0) (hb : okM3 T Ls AA n) (hx : ∀ t, xo = some t → t < 2 ^ 31) (hL : lenOK Ls) (hlen : Ls.length < 2 ^ 30) : XMv l yX6_one wsX6_one ({ frames := 2, cells := 0, slots := 0, locals := 46 } : Room) D (xT cI cC) xE0 (wM cI cC md T k tm dy P pk ptm pdy hpi tg tl R sg sl (upN (upN (upN (upN (upN (upN (upN (upN (upN (upN (upN (upN u0.1 32 ((w).length)) 33 ((Ls).length)) 34 (onS (Ls))) 36 ((fwS T xo (Ls)).length)) 37 (onS (fwS T xo (Ls)))) 38 (n 4)) 39 (n 0)) 41 (n 5)) 42 (n 1)) 43 (n 2)) 45 (n 6)) 46 (n 3), upA (upA (upA (upA u0.2.1 31 G) 40 (AA 0)) 44 (AA 1)) 47 (AA 2), xo)) [.ref (md 1)] (S := (Nat → Nat → Nat) × (Nat → Nat)) (fun u => okM3 T (Ls ++ [w]) u.1 u.2) (fun u => wM cI cC md T k tm dy P pk ptm pdy hpi tg tl R sg sl (upN (upN (upN (upN (upN (upN (upN (upN (upN (upN (upN (upN u0.1 32 ((w).length)) 33 ((Ls ++ [w]).length)) 34 (onS (Ls ++ [w]))) 36 ((fwS T xo (Ls ++ [w])).length)) 37 (onS (fwS T xo (Ls ++ [w])))) 38 (u.2 4)) 39 (u.2 0)) 41 (u.2 5)) 42 (u.2 1)) 43 (u.2 2)) 45 (u.2 6)) 46 (u.2 3), upA (upA (upA (upA u0.2.1 31 G) 40 (u.1 0)) 44 (u.1 1)) 47 (u.1 2), xo)) 0 0 := by
  refine xMet_v (cc := cX6_one) (nL := 4)  (by decide +kernel) rfl (Nat.le_of_ble_eq_true rfl) (fun κ A h0 hn0 hE => ?_)
  have hiX6 : ∀ w ∈ u_ws RX6 TX6 52, w ∈ wsX6_one := by decide +kernel
  refine xlv (lv' := [(0, .ref (md 1))]) [0] rfl ?_
  have hn := hT.1
  have hw256 : mskL w < 256 := mskL_lt w (fun q hq => by have := hwn q hq; omega)
  have htm := tmS_le hT h8
  have hrg := rgS_le hT w
  have hb0 := bestS_len (T := T) (o := 0) hL
  have hb1 := bestS_len (T := T) (o := 1) hL
  have hb2 := bestS_len (T := T) (o := 2) hL
  have hfl := fwS_len T xo Ls
  have q0 := tmS_le hT hb0
  have q1 := tmS_le hT hb1
  have q2 := tmS_le hT hb2
  have q3 := rgS_le hT (bestS T 1 Ls)
  refine xaload_n h0 0 dX6_one_0 rfl rfl ?_
  refine xcallV_i (nn := 0) (w2 := fun u_ => (wM cI cC md T k tm dy P pk ptm pdy hpi tg tl R sg sl (upN (upN (upN (upN (upN (upN (upN (upN (upN (upN (upN (upN u0.1 32 ((w).length)) 33 ((Ls).length)) 34 (onS (Ls))) 36 ((fwS T xo (Ls)).length)) 37 (onS (fwS T xo (Ls)))) 38 (n 4)) 39 (n 0)) 41 (n 5)) 42 (n 1)) 43 (n 2)) 45 (n 6)) 46 (n 3), upA (upA (upA (upA u0.2.1 31 G) 40 (AA 0)) 44 (AA 1)) 47 (AA 2), xo))) (wr := []) (rest := []) h0 (c_X6_time (xL κ) D cI cC md T k tm dy P pk ptm pdy hpi tg tl R sg sl (upN (upN (upN (upN (upN (upN (upN (upN (upN (upN (upN (upN u0.1 32 ((w).length)) 33 ((Ls).length)) 34 (onS (Ls))) 36 ((fwS T xo (Ls)).length)) 37 (onS (fwS T xo (Ls)))) 38 (n 4)) 39 (n 0)) 41 (n 5)) 42 (n 1)) 43 (n 2)) 45 (n 6)) 46 (n 3), upA (upA (upA (upA u0.2.1 31 G) 40 (AA 0)) 44 (AA 1)) 47 (AA 2), xo) w G hT hG (by assumption) (by assumption) (by assumption)) gX6_one_X6_time (by decide +kernel) rfl rfl rfl ⟨Nat.le_of_ble_eq_true rfl, Nat.le_of_ble_eq_true rfl⟩ ⟨by decide, by decide⟩ (fun _ _ _ _ h => h) (fun _ _ _ _ _ _ _ => trivial) rfl (Nat.le_of_ble_eq_true rfl) (q0 := 0) rfl rfl rfl [0, 1, 2, 3, 4, 5, 6, 7, 8, 9, 10, 11, 12, 13, 14, 15, 16, 17, 18, 19, 20, 21] [] [0, 1, 2, 3, 4, 5, 6, 7, 8, 9, 10, 11, 12, 13, 14, 15, 16, 17, 18, 19, 20, 21] ⟨rfl, rfl, rfl, rfl, rfl⟩ (fun _ => ⟨rfl, rfl⟩) dX6_one_1 (fun r_2 u_ hr_1 => ?_)
  subst hr_1
  refine xistore_n (lv' := [(1, .int (nI (tmS T w))), (0, .ref (md 1))]) h0 dX6_one_4 rfl (by decide) rfl ?_
  refine xaload_n h0 1 dX6_one_5 rfl rfl ?_
  refine xcallV_i (nn := 0) (w2 := fun u_ => (wM cI cC md T k tm dy P pk ptm pdy hpi tg tl R sg sl (upN (upN (upN (upN (upN (upN (upN (upN (upN (upN (upN (upN u0.1 32 ((w).length)) 33 ((Ls).length)) 34 (onS (Ls))) 36 ((fwS T xo (Ls)).length)) 37 (onS (fwS T xo (Ls)))) 38 (n 4)) 39 (n 0)) 41 (n 5)) 42 (n 1)) 43 (n 2)) 45 (n 6)) 46 (n 3), upA (upA (upA (upA u0.2.1 31 G) 40 (AA 0)) 44 (AA 1)) 47 (AA 2), xo))) (wr := []) (rest := []) h0 (c_X6_right (xL κ) D cI cC md T k tm dy P pk ptm pdy hpi tg tl R sg sl (upN (upN (upN (upN (upN (upN (upN (upN (upN (upN (upN (upN u0.1 32 ((w).length)) 33 ((Ls).length)) 34 (onS (Ls))) 36 ((fwS T xo (Ls)).length)) 37 (onS (fwS T xo (Ls)))) 38 (n 4)) 39 (n 0)) 41 (n 5)) 42 (n 1)) 43 (n 2)) 45 (n 6)) 46 (n 3), upA (upA (upA (upA u0.2.1 31 G) 40 (AA 0)) 44 (AA 1)) 47 (AA 2), xo) w G hT hG (by assumption) (by assumption) (by assumption)) gX6_one_X6_right (by decide +kernel) rfl rfl rfl ⟨Nat.le_of_ble_eq_true rfl, Nat.le_of_ble_eq_true rfl⟩ ⟨by decide, by decide⟩ (fun _ _ _ _ h => h) (fun _ _ _ _ _ _ _ => trivial) rfl (Nat.le_of_ble_eq_true rfl) (q0 := 0) rfl rfl rfl [0, 1, 2, 3, 4, 5, 6, 7, 8, 9, 10, 11, 12, 13, 14, 15, 16, 17, 18, 19, 20, 21] [] [0, 1, 2, 3, 4, 5, 6, 7, 8, 9, 10, 11, 12, 13, 14, 15, 16, 17, 18, 19, 20, 21] ⟨rfl, rfl, rfl, rfl, rfl⟩ (fun _ => ⟨rfl, rfl⟩) dX6_one_6 (fun r_4 u_ hr_3 => ?_)
  subst hr_3
  refine xistore_n (lv' := [(2, .int (nI (rgS T w))), (1, .int (nI (tmS T w))), (0, .ref (md 1))]) h0 dX6_one_9 rfl (by decide) rfl ?_
  refine xaload_n h0 2 dX6_one_10 rfl rfl ?_
  refine xcallV_i (nn := 0) (w2 := fun u_ => (wM cI cC md T k tm dy P pk ptm pdy hpi tg tl R sg sl (upN (upN (upN (upN (upN (upN (upN (upN (upN (upN (upN (upN u0.1 32 ((w).length)) 33 ((Ls).length)) 34 (onS (Ls))) 36 ((fwS T xo (Ls)).length)) 37 (onS (fwS T xo (Ls)))) 38 (n 4)) 39 (n 0)) 41 (n 5)) 42 (n 1)) 43 (n 2)) 45 (n 6)) 46 (n 3), upA (upA (upA (upA u0.2.1 31 G) 40 (AA 0)) 44 (AA 1)) 47 (AA 2), xo))) (wr := []) (rest := []) h0 (c_X6_onWay (xL κ) D cI cC md T k tm dy P pk ptm pdy hpi tg tl R sg sl (upN (upN (upN (upN (upN (upN (upN (upN (upN (upN (upN (upN u0.1 32 ((w).length)) 33 ((Ls).length)) 34 (onS (Ls))) 36 ((fwS T xo (Ls)).length)) 37 (onS (fwS T xo (Ls)))) 38 (n 4)) 39 (n 0)) 41 (n 5)) 42 (n 1)) 43 (n 2)) 45 (n 6)) 46 (n 3), upA (upA (upA (upA u0.2.1 31 G) 40 (AA 0)) 44 (AA 1)) 47 (AA 2), xo) w G hT hG (by assumption) (by assumption) (by assumption)) gX6_one_X6_onWay (by decide +kernel) rfl rfl rfl ⟨Nat.le_of_ble_eq_true rfl, Nat.le_of_ble_eq_true rfl⟩ ⟨by decide, by decide⟩ (fun _ _ _ _ h => h) (fun _ _ _ _ _ _ _ => trivial) rfl (Nat.le_of_ble_eq_true rfl) (q0 := 0) rfl rfl rfl [0, 1, 2, 3, 4, 5, 6, 7, 8, 9, 10, 11, 12, 13, 14, 15, 16, 17, 18, 19, 20, 21] [] [0, 1, 2, 3, 4, 5, 6, 7, 8, 9, 10, 11, 12, 13, 14, 15, 16, 17, 18, 19, 20, 21] ⟨rfl, rfl, rfl, rfl, rfl⟩ (fun _ => ⟨rfl, rfl⟩) dX6_one_11 (fun r_6 u_ hr_5 => ?_)
  subst hr_5
  refine xistore_n (lv' := [(3, .int (nI (mskL w))), (2, .int (nI (rgS T w))), (1, .int (nI (tmS T w))), (0, .ref (md 1))]) h0 dX6_one_14 rfl (by decide) rfl ?_
  have ja : ∀ (G0 : Nat → Nat) (s0 l0 : Nat), (okW (bestS T 0 (Ls ++ [w])) G0) → (s0 = tmS T (bestS T 0 (Ls ++ [w]))) → (l0 = (bestS T 0 (Ls ++ [w])).length) → XG κ 4 D (xT cI cC) A (xQv (S := (Nat → Nat → Nat) × (Nat → Nat)) κ D (xT cI cC) A (fun u => okM3 T (Ls ++ [w]) u.1 u.2) (fun u => wM cI cC md T k tm dy P pk ptm pdy hpi tg tl R sg sl (upN (upN (upN (upN (upN (upN (upN (upN (upN (upN (upN (upN u0.1 32 ((w).length)) 33 ((Ls ++ [w]).length)) 34 (onS (Ls ++ [w]))) 36 ((fwS T xo (Ls ++ [w])).length)) 37 (onS (fwS T xo (Ls ++ [w])))) 38 (u.2 4)) 39 (u.2 0)) 41 (u.2 5)) 42 (u.2 1)) 43 (u.2 2)) 45 (u.2 6)) 46 (u.2 3), upA (upA (upA (upA u0.2.1 31 G) 40 (u.1 0)) 44 (u.1 1)) 47 (u.1 2), xo)) 0 0) (wM cI cC md T k tm dy P pk ptm pdy hpi tg tl R sg sl (upN (upN (upN (upN (upN (upN (upN (upN (upN (upN (upN (upN u0.1 32 ((w).length)) 33 ((Ls).length)) 34 (onS (Ls))) 36 ((fwS T xo (Ls)).length)) 37 (onS (fwS T xo (Ls)))) 38 l0) 39 s0) 41 (n 5)) 42 (n 1)) 43 (n 2)) 45 (n 6)) 46 (n 3), upA (upA (upA (upA u0.2.1 31 G) 40 G0) 44 (AA 1)) 47 (AA 2), xo)) 0 0 51 [(0, .ref (md 1)), (1, .int (nI (tmS T w))), (2, .int (nI (rgS T w))), (3, .int (nI (mskL w)))] [] := by
    intro G0 s0 l0 ok0 e0 f0
    have jb : ∀ (G1 : Nat → Nat) (s1 s2 l1 : Nat), (okW (bestS T 1 (Ls ++ [w])) G1) → (s1 = rgS T (bestS T 1 (Ls ++ [w]))) → (s2 = tmS T (bestS T 1 (Ls ++ [w]))) → (l1 = (bestS T 1 (Ls ++ [w])).length) → XG κ 4 D (xT cI cC) A (xQv (S := (Nat → Nat → Nat) × (Nat → Nat)) κ D (xT cI cC) A (fun u => okM3 T (Ls ++ [w]) u.1 u.2) (fun u => wM cI cC md T k tm dy P pk ptm pdy hpi tg tl R sg sl (upN (upN (upN (upN (upN (upN (upN (upN (upN (upN (upN (upN u0.1 32 ((w).length)) 33 ((Ls ++ [w]).length)) 34 (onS (Ls ++ [w]))) 36 ((fwS T xo (Ls ++ [w])).length)) 37 (onS (fwS T xo (Ls ++ [w])))) 38 (u.2 4)) 39 (u.2 0)) 41 (u.2 5)) 42 (u.2 1)) 43 (u.2 2)) 45 (u.2 6)) 46 (u.2 3), upA (upA (upA (upA u0.2.1 31 G) 40 (u.1 0)) 44 (u.1 1)) 47 (u.1 2), xo)) 0 0) (wM cI cC md T k tm dy P pk ptm pdy hpi tg tl R sg sl (upN (upN (upN (upN (upN (upN (upN (upN (upN (upN (upN (upN u0.1 32 ((w).length)) 33 ((Ls).length)) 34 (onS (Ls))) 36 ((fwS T xo (Ls)).length)) 37 (onS (fwS T xo (Ls)))) 38 l0) 39 s0) 41 l1) 42 s1) 43 s2) 45 (n 6)) 46 (n 3), upA (upA (upA (upA u0.2.1 31 G) 40 G0) 44 G1) 47 (AA 2), xo)) 0 0 108 [(0, .ref (md 1)), (1, .int (nI (tmS T w))), (2, .int (nI (rgS T w))), (3, .int (nI (mskL w)))] [] := by
      intro G1 s1 s2 l1 ok1 e1 e2 f1
      have jc : ∀ (G2 : Nat → Nat) (s3 l2 : Nat), (okW (bestS T 2 (Ls ++ [w])) G2) → (s3 = tmS T (bestS T 2 (Ls ++ [w]))) → (l2 = (bestS T 2 (Ls ++ [w])).length) → XG κ 4 D (xT cI cC) A (xQv (S := (Nat → Nat → Nat) × (Nat → Nat)) κ D (xT cI cC) A (fun u => okM3 T (Ls ++ [w]) u.1 u.2) (fun u => wM cI cC md T k tm dy P pk ptm pdy hpi tg tl R sg sl (upN (upN (upN (upN (upN (upN (upN (upN (upN (upN (upN (upN u0.1 32 ((w).length)) 33 ((Ls ++ [w]).length)) 34 (onS (Ls ++ [w]))) 36 ((fwS T xo (Ls ++ [w])).length)) 37 (onS (fwS T xo (Ls ++ [w])))) 38 (u.2 4)) 39 (u.2 0)) 41 (u.2 5)) 42 (u.2 1)) 43 (u.2 2)) 45 (u.2 6)) 46 (u.2 3), upA (upA (upA (upA u0.2.1 31 G) 40 (u.1 0)) 44 (u.1 1)) 47 (u.1 2), xo)) 0 0) (wM cI cC md T k tm dy P pk ptm pdy hpi tg tl R sg sl (upN (upN (upN (upN (upN (upN (upN (upN (upN (upN (upN (upN u0.1 32 ((w).length)) 33 ((Ls).length)) 34 (onS (Ls))) 36 ((fwS T xo (Ls)).length)) 37 (onS (fwS T xo (Ls)))) 38 l0) 39 s0) 41 l1) 42 s1) 43 s2) 45 l2) 46 s3, upA (upA (upA (upA u0.2.1 31 G) 40 G0) 44 G1) 47 G2, xo)) 0 0 166 [(0, .ref (md 1)), (1, .int (nI (tmS T w))), (2, .int (nI (rgS T w))), (3, .int (nI (mskL w)))] [] := by
        intro G2 s3 l2 ok2 e3 f2
        have jd : ∀ (al : Nat), (al = onS (Ls ++ [w])) → XG κ 4 D (xT cI cC) A (xQv (S := (Nat → Nat → Nat) × (Nat → Nat)) κ D (xT cI cC) A (fun u => okM3 T (Ls ++ [w]) u.1 u.2) (fun u => wM cI cC md T k tm dy P pk ptm pdy hpi tg tl R sg sl (upN (upN (upN (upN (upN (upN (upN (upN (upN (upN (upN (upN u0.1 32 ((w).length)) 33 ((Ls ++ [w]).length)) 34 (onS (Ls ++ [w]))) 36 ((fwS T xo (Ls ++ [w])).length)) 37 (onS (fwS T xo (Ls ++ [w])))) 38 (u.2 4)) 39 (u.2 0)) 41 (u.2 5)) 42 (u.2 1)) 43 (u.2 2)) 45 (u.2 6)) 46 (u.2 3), upA (upA (upA (upA u0.2.1 31 G) 40 (u.1 0)) 44 (u.1 1)) 47 (u.1 2), xo)) 0 0) (wM cI cC md T k tm dy P pk ptm pdy hpi tg tl R sg sl (upN (upN (upN (upN (upN (upN (upN (upN (upN (upN (upN (upN u0.1 32 ((w).length)) 33 ((Ls).length)) 34 (onS (Ls))) 36 ((fwS T xo (Ls)).length)) 37 (onS (fwS T xo (Ls)))) 38 l0) 39 s0) 41 l1) 42 s1) 43 s2) 45 l2) 46 s3, upA (upA (upA (upA u0.2.1 31 G) 40 G0) 44 G1) 47 G2, xo)) 0 0 184 [(0, .ref (md 1)), (1, .int (nI (tmS T w))), (2, .int (nI (rgS T w))), (3, .int (nI (mskL w)))] [.int (nI al), .ref (md 1)] := by
          intro al hal
          refine xput (ws' := (wM cI cC md T k tm dy P pk ptm pdy hpi tg tl R sg sl (upN (upN (upN (upN (upN (upN (upN (upN (upN (upN (upN (upN u0.1 32 ((w).length)) 33 ((Ls).length)) 34 al) 36 ((fwS T xo (Ls)).length)) 37 (onS (fwS T xo (Ls)))) 38 l0) 39 s0) 41 l1) 42 s1) 43 s2) 45 l2) 46 s3, upA (upA (upA (upA u0.2.1 31 G) 40 G0) 44 G1) 47 G2, xo))) (C := RX6) (T := TX6) (N := 52) (ci := 6) (ty := tyX6 34) h0 hiX6 tyX6 tyX6_ok nmX6 0 rfl rfl 34 (by decide) (List.mem_of_getElem? (i := 13) rfl) rfl (by decide +kernel) (rfl) (rfl) (Nat.le_of_ble_eq_true rfl) dX6_one_184 rfl ?_
          refine xiload_n h0 1 dX6_one_187 rfl rfl ?_
          refine xaload_n h0 0 dX6_one_188 rfl rfl ?_
          refine xget (C := RX6) (T := TX6) (N := 52) (ci := 6) (v := .int (oI xo)) h0 hiX6 0 rfl rfl 35 (by decide) (List.mem_of_getElem? (i := 14) rfl) rfl dX6_one_189 ?_
          refine xicmp_ne (tgt := 226) h0 dX6_one_192 (by decide)  (fun c_7 => ?_) (fun c_7 => ?_)
          · skip
            have hF : fwS T xo (Ls ++ [w]) = fwS T xo Ls := fwS_n Ls (fun t e z => c_7 ((oI_x (by omega) hx).mpr (by rw [z]; exact e)))
            refine xaload_n h0 0 dX6_one_226 rfl rfl ?_
            refine xdup h0 dX6_one_227 rfl ?_
            refine xget (C := RX6) (T := TX6) (N := 52) (ci := 6) (v := .int (nI ((Ls).length))) h0 hiX6 0 rfl rfl 33 (by decide) (List.mem_of_getElem? (i := 1) rfl) rfl dX6_one_228 ?_
            refine xiconst (v := (nI 1)) h0 dX6_one_231 (by decide) ?_
            refine xiadd (v := (nI (((Ls).length) + 1))) h0 dX6_one_232 (nI_add _ _) ?_
            refine xput (ws' := (wM cI cC md T k tm dy P pk ptm pdy hpi tg tl R sg sl (upN (upN (upN (upN (upN (upN (upN (upN (upN (upN (upN (upN u0.1 32 ((w).length)) 33 (((Ls).length) + 1)) 34 al) 36 ((fwS T xo (Ls)).length)) 37 (onS (fwS T xo (Ls)))) 38 l0) 39 s0) 41 l1) 42 s1) 43 s2) 45 l2) 46 s3, upA (upA (upA (upA u0.2.1 31 G) 40 G0) 44 G1) 47 G2, xo))) (C := RX6) (T := TX6) (N := 52) (ci := 6) (ty := tyX6 33) h0 hiX6 tyX6 tyX6_ok nmX6 0 rfl rfl 33 (by decide) (List.mem_of_getElem? (i := 1) rfl) rfl (by decide +kernel) (rfl) (rfl) (Nat.le_of_ble_eq_true rfl) dX6_one_233 rfl ?_
            exact xvret h0 dX6_one_236 (fun i => ([G0, G1, G2] : List (Nat → Nat)).getD i (fun _ => 0), fun i => [s0, s1, s2, s3, l0, l1, l2].getD i 0) (by exact ⟨ok0, ok1, ok2, fun _ => ⟨e0, e1, e2, e3, f0, f1, f2⟩⟩) (by first | (rw [hF, List.length_append, List.length_singleton, ← hal]; first | done | rfl) | (rw [hF, List.length_append, List.length_append, List.length_singleton, ← hal, ← hta]; first | done | rfl))
          · skip
            have hF : fwS T xo (Ls ++ [w]) = fwS T xo Ls ++ [w] := fwS_y Ls ((oI_x (by omega) hx).mp c_7) rfl
            have je : ∀ (ta : Nat), (ta = onS (fwS T xo Ls ++ [w])) → XG κ 4 D (xT cI cC) A (xQv (S := (Nat → Nat → Nat) × (Nat → Nat)) κ D (xT cI cC) A (fun u => okM3 T (Ls ++ [w]) u.1 u.2) (fun u => wM cI cC md T k tm dy P pk ptm pdy hpi tg tl R sg sl (upN (upN (upN (upN (upN (upN (upN (upN (upN (upN (upN (upN u0.1 32 ((w).length)) 33 ((Ls ++ [w]).length)) 34 (onS (Ls ++ [w]))) 36 ((fwS T xo (Ls ++ [w])).length)) 37 (onS (fwS T xo (Ls ++ [w])))) 38 (u.2 4)) 39 (u.2 0)) 41 (u.2 5)) 42 (u.2 1)) 43 (u.2 2)) 45 (u.2 6)) 46 (u.2 3), upA (upA (upA (upA u0.2.1 31 G) 40 (u.1 0)) 44 (u.1 1)) 47 (u.1 2), xo)) 0 0) (wM cI cC md T k tm dy P pk ptm pdy hpi tg tl R sg sl (upN (upN (upN (upN (upN (upN (upN (upN (upN (upN (upN (upN u0.1 32 ((w).length)) 33 ((Ls).length)) 34 al) 36 ((fwS T xo (Ls)).length)) 37 (onS (fwS T xo (Ls)))) 38 l0) 39 s0) 41 l1) 42 s1) 43 s2) 45 l2) 46 s3, upA (upA (upA (upA u0.2.1 31 G) 40 G0) 44 G1) 47 G2, xo)) 0 0 213 [(0, .ref (md 1)), (1, .int (nI (tmS T w))), (2, .int (nI (rgS T w))), (3, .int (nI (mskL w)))] [.int (nI ta), .ref (md 1)] := by
              intro ta hta
              refine xput (ws' := (wM cI cC md T k tm dy P pk ptm pdy hpi tg tl R sg sl (upN (upN (upN (upN (upN (upN (upN (upN (upN (upN (upN (upN u0.1 32 ((w).length)) 33 ((Ls).length)) 34 al) 36 ((fwS T xo (Ls)).length)) 37 ta) 38 l0) 39 s0) 41 l1) 42 s1) 43 s2) 45 l2) 46 s3, upA (upA (upA (upA u0.2.1 31 G) 40 G0) 44 G1) 47 G2, xo))) (C := RX6) (T := TX6) (N := 52) (ci := 6) (ty := tyX6 37) h0 hiX6 tyX6 tyX6_ok nmX6 0 rfl rfl 37 (by decide) (List.mem_of_getElem? (i := 16) rfl) rfl (by decide +kernel) (rfl) (rfl) (Nat.le_of_ble_eq_true rfl) dX6_one_213 rfl ?_
              refine xaload_n h0 0 dX6_one_216 rfl rfl ?_
              refine xdup h0 dX6_one_217 rfl ?_
              refine xget (C := RX6) (T := TX6) (N := 52) (ci := 6) (v := .int (nI ((fwS T xo (Ls)).length))) h0 hiX6 0 rfl rfl 36 (by decide) (List.mem_of_getElem? (i := 15) rfl) rfl dX6_one_218 ?_
              refine xiconst (v := (nI 1)) h0 dX6_one_221 (by decide) ?_
              refine xiadd (v := (nI (((fwS T xo (Ls)).length) + 1))) h0 dX6_one_222 (nI_add _ _) ?_
              refine xput (ws' := (wM cI cC md T k tm dy P pk ptm pdy hpi tg tl R sg sl (upN (upN (upN (upN (upN (upN (upN (upN (upN (upN (upN (upN u0.1 32 ((w).length)) 33 ((Ls).length)) 34 al) 36 (((fwS T xo (Ls)).length) + 1)) 37 ta) 38 l0) 39 s0) 41 l1) 42 s1) 43 s2) 45 l2) 46 s3, upA (upA (upA (upA u0.2.1 31 G) 40 G0) 44 G1) 47 G2, xo))) (C := RX6) (T := TX6) (N := 52) (ci := 6) (ty := tyX6 36) h0 hiX6 tyX6 tyX6_ok nmX6 0 rfl rfl 36 (by decide) (List.mem_of_getElem? (i := 15) rfl) rfl (by decide +kernel) (rfl) (rfl) (Nat.le_of_ble_eq_true rfl) dX6_one_223 rfl ?_
              refine xaload_n h0 0 dX6_one_226 rfl rfl ?_
              refine xdup h0 dX6_one_227 rfl ?_
              refine xget (C := RX6) (T := TX6) (N := 52) (ci := 6) (v := .int (nI ((Ls).length))) h0 hiX6 0 rfl rfl 33 (by decide) (List.mem_of_getElem? (i := 1) rfl) rfl dX6_one_228 ?_
              refine xiconst (v := (nI 1)) h0 dX6_one_231 (by decide) ?_
              refine xiadd (v := (nI (((Ls).length) + 1))) h0 dX6_one_232 (nI_add _ _) ?_
              refine xput (ws' := (wM cI cC md T k tm dy P pk ptm pdy hpi tg tl R sg sl (upN (upN (upN (upN (upN (upN (upN (upN (upN (upN (upN (upN u0.1 32 ((w).length)) 33 (((Ls).length) + 1)) 34 al) 36 (((fwS T xo (Ls)).length) + 1)) 37 ta) 38 l0) 39 s0) 41 l1) 42 s1) 43 s2) 45 l2) 46 s3, upA (upA (upA (upA u0.2.1 31 G) 40 G0) 44 G1) 47 G2, xo))) (C := RX6) (T := TX6) (N := 52) (ci := 6) (ty := tyX6 33) h0 hiX6 tyX6 tyX6_ok nmX6 0 rfl rfl 33 (by decide) (List.mem_of_getElem? (i := 1) rfl) rfl (by decide +kernel) (rfl) (rfl) (Nat.le_of_ble_eq_true rfl) dX6_one_233 rfl ?_
              exact xvret h0 dX6_one_236 (fun i => ([G0, G1, G2] : List (Nat → Nat)).getD i (fun _ => 0), fun i => [s0, s1, s2, s3, l0, l1, l2].getD i 0) (by exact ⟨ok0, ok1, ok2, fun _ => ⟨e0, e1, e2, e3, f0, f1, f2⟩⟩) (by first | (rw [hF, List.length_append, List.length_singleton, ← hal]; first | done | rfl) | (rw [hF, List.length_append, List.length_append, List.length_singleton, ← hal, ← hta]; first | done | rfl))
            refine xaload_n h0 0 dX6_one_195 rfl rfl ?_
            refine xaload_n h0 0 dX6_one_196 rfl rfl ?_
            refine xget (C := RX6) (T := TX6) (N := 52) (ci := 6) (v := .int (nI ((fwS T xo (Ls)).length))) h0 hiX6 0 rfl rfl 36 (by decide) (List.mem_of_getElem? (i := 15) rfl) rfl dX6_one_197 ?_
            refine xnif_ne (tgt := 207) h0 dX6_one_200 (by decide) (by omega) (fun c_8 => ?_) (fun c_8 => ?_)
            · skip
              refine xaload_n h0 0 dX6_one_207 rfl rfl ?_
              refine xget (C := RX6) (T := TX6) (N := 52) (ci := 6) (v := .int (nI (onS (fwS T xo (Ls))))) h0 hiX6 0 rfl rfl 37 (by decide) (List.mem_of_getElem? (i := 16) rfl) rfl dX6_one_208 ?_
              refine xiload_n h0 3 dX6_one_211 rfl rfl ?_
              refine xiand (v := (nI ((onS (fwS T xo (Ls))) &&& (mskL w)))) h0 dX6_one_212 (nx_and _ _) ?_
              exact je ((onS (fwS T xo (Ls))) &&& (mskL w)) (by first | exact (onS_1 (by assumption) hw256).symm | exact (onS_2 w (by assumption)).symm)
            · skip
              refine xiload_n h0 3 dX6_one_203 rfl rfl ?_
              refine xgoto (tgt := 213) h0 dX6_one_204 (by decide) ?_
              exact je (mskL w) (by first | exact (onS_1 (by assumption) hw256).symm | exact (onS_2 w (by assumption)).symm)
        refine xaload_n h0 0 dX6_one_166 rfl rfl ?_
        refine xaload_n h0 0 dX6_one_167 rfl rfl ?_
        refine xget (C := RX6) (T := TX6) (N := 52) (ci := 6) (v := .int (nI ((Ls).length))) h0 hiX6 0 rfl rfl 33 (by decide) (List.mem_of_getElem? (i := 1) rfl) rfl dX6_one_168 ?_
        refine xnif_ne (tgt := 178) h0 dX6_one_171 (by decide) (by omega) (fun c_9 => ?_) (fun c_9 => ?_)
        · skip
          refine xaload_n h0 0 dX6_one_178 rfl rfl ?_
          refine xget (C := RX6) (T := TX6) (N := 52) (ci := 6) (v := .int (nI (onS (Ls)))) h0 hiX6 0 rfl rfl 34 (by decide) (List.mem_of_getElem? (i := 13) rfl) rfl dX6_one_179 ?_
          refine xiload_n h0 3 dX6_one_182 rfl rfl ?_
          refine xiand (v := (nI ((onS (Ls)) &&& (mskL w)))) h0 dX6_one_183 (nx_and _ _) ?_
          exact jd ((onS (Ls)) &&& (mskL w)) (by first | exact (onS_1 (by assumption) hw256).symm | exact (onS_2 w (by assumption)).symm)
        · skip
          refine xiload_n h0 3 dX6_one_174 rfl rfl ?_
          refine xgoto (tgt := 184) h0 dX6_one_175 (by decide) ?_
          exact jd (mskL w) (by first | exact (onS_1 (by assumption) hw256).symm | exact (onS_2 w (by assumption)).symm)
      refine xaload_n h0 0 dX6_one_108 rfl rfl ?_
      refine xget (C := RX6) (T := TX6) (N := 52) (ci := 6) (v := .int (nI ((Ls).length))) h0 hiX6 0 rfl rfl 33 (by decide) (List.mem_of_getElem? (i := 1) rfl) rfl dX6_one_109 ?_
      refine xnif_eq (tgt := 145) h0 dX6_one_112 (by decide) (by omega) (fun c_10 => ?_) (fun c_10 => ?_)
      · skip
        have hz0 : (Ls).length = 0 := by omega
        have hbe2 : bestS T 2 (Ls ++ [w]) = w := bestS_y (Or.inl ((bestS_0 hL).mpr (List.length_eq_zero_iff.mp hz0)))
        refine xaload_n h0 0 dX6_one_145 rfl rfl ?_
        refine xaload_n h0 0 dX6_one_146 rfl rfl ?_
        refine xget (C := RX6) (T := TX6) (N := 52) (ci := 6) (v := .int (nI ((w).length))) h0 hiX6 0 rfl rfl 32 (by decide) (List.mem_of_getElem? (i := 3) rfl) rfl dX6_one_147 ?_
        refine xput (ws' := (wM cI cC md T k tm dy P pk ptm pdy hpi tg tl R sg sl (upN (upN (upN (upN (upN (upN (upN (upN (upN (upN (upN (upN u0.1 32 ((w).length)) 33 ((Ls).length)) 34 (onS (Ls))) 36 ((fwS T xo (Ls)).length)) 37 (onS (fwS T xo (Ls)))) 38 l0) 39 s0) 41 l1) 42 s1) 43 s2) 45 ((w).length)) 46 (n 3), upA (upA (upA (upA u0.2.1 31 G) 40 G0) 44 G1) 47 (AA 2), xo))) (C := RX6) (T := TX6) (N := 52) (ci := 6) (ty := tyX6 45) h0 hiX6 tyX6 tyX6_ok nmX6 0 rfl rfl 45 (by decide) (List.mem_of_getElem? (i := 10) rfl) rfl (by decide +kernel) (rfl) (rfl) (Nat.le_of_ble_eq_true rfl) dX6_one_150 rfl ?_
        refine xaload_n h0 0 dX6_one_153 rfl rfl ?_
        refine xiload_n h0 1 dX6_one_154 rfl rfl ?_
        refine xput (ws' := (wM cI cC md T k tm dy P pk ptm pdy hpi tg tl R sg sl (upN (upN (upN (upN (upN (upN (upN (upN (upN (upN (upN (upN u0.1 32 ((w).length)) 33 ((Ls).length)) 34 (onS (Ls))) 36 ((fwS T xo (Ls)).length)) 37 (onS (fwS T xo (Ls)))) 38 l0) 39 s0) 41 l1) 42 s1) 43 s2) 45 ((w).length)) 46 (tmS T w), upA (upA (upA (upA u0.2.1 31 G) 40 G0) 44 G1) 47 (AA 2), xo))) (C := RX6) (T := TX6) (N := 52) (ci := 6) (ty := tyX6 46) h0 hiX6 tyX6 tyX6_ok nmX6 0 rfl rfl 46 (by decide) (List.mem_of_getElem? (i := 11) rfl) rfl (by decide +kernel) (rfl) (rfl) (Nat.le_of_ble_eq_true rfl) dX6_one_155 rfl ?_
        refine xaload_n h0 0 dX6_one_158 rfl rfl ?_
        refine xaload_n h0 0 dX6_one_159 rfl rfl ?_
        refine xget (C := RX6) (T := TX6) (N := 52) (ci := 6) (v := .ref (md 47)) h0 hiX6 0 rfl rfl 47 (by decide) (List.mem_of_getElem? (i := 12) rfl) rfl dX6_one_160 ?_
        refine xcallV_v (nn := 1) (w2 := fun E_11 => (wM cI cC md T k tm dy P pk ptm pdy hpi tg tl R sg sl (upN (upN (upN (upN (upN (upN (upN (upN (upN (upN (upN (upN u0.1 32 ((w).length)) 33 ((Ls).length)) 34 (onS (Ls))) 36 ((fwS T xo (Ls)).length)) 37 (onS (fwS T xo (Ls)))) 38 l0) 39 s0) 41 l1) 42 s1) 43 s2) 45 ((w).length)) 46 (tmS T w), upA (upA (upA (upA u0.2.1 31 G) 40 G0) 44 G1) 47 E_11, xo))) (wr := []) (rest := []) h0 (c_X6_take_47 (xL κ) D cI cC md T k tm dy P pk ptm pdy hpi tg tl R sg sl (upN (upN (upN (upN (upN (upN (upN (upN (upN (upN (upN (upN u0.1 32 ((w).length)) 33 ((Ls).length)) 34 (onS (Ls))) 36 ((fwS T xo (Ls)).length)) 37 (onS (fwS T xo (Ls)))) 38 l0) 39 s0) 41 l1) 42 s1) 43 s2) 45 ((w).length)) 46 (tmS T w), upA (upA (upA (upA u0.2.1 31 G) 40 G0) 44 G1) 47 (AA 2), xo) w G hT hG (by assumption) (by assumption) (by assumption)) gX6_one_X6_take (by decide +kernel) rfl rfl rfl ⟨Nat.le_of_ble_eq_true rfl, Nat.le_of_ble_eq_true rfl⟩ ⟨by decide, by decide⟩ (fun _ _ _ _ h => h) (fun _ _ _ _ _ _ _ => trivial) rfl (Nat.le_of_ble_eq_true rfl) (q0 := 0) rfl rfl rfl [0, 1, 2, 3, 4, 5, 6, 7, 8, 9, 10, 11, 12, 13, 14, 15, 16, 17, 18, 19, 20, 21] [] [0, 1, 2, 3, 4, 5, 6, 7, 8, 9, 10, 11, 12, 13, 14, 15, 16, 17, 18, 19, 20, 21] ⟨rfl, rfl, rfl, rfl, rfl⟩ (fun _ => ⟨rfl, rfl⟩) dX6_one_163 (fun E_11 hE_12 => ?_)
        exact jc E_11 (tmS T w) ((w).length) (by rw [hbe2]; exact hE_12) (by first | (rw [hbe2]; done) | (rw [hbe2]; exact hbb.2.2.2.1)) (by first | (rw [hbe2]; done) | (rw [hbe2]; exact hbb.2.2.2.2.2.2))
      · skip
        have hne : Ls ≠ [] := fun z => by rw [z] at c_10; exact absurd c_10 (by decide)
        have hbb := hb.2.2.2 hne
        refine xaload_n h0 0 dX6_one_115 rfl rfl ?_
        refine xget (C := RX6) (T := TX6) (N := 52) (ci := 6) (v := .int (nI ((w).length))) h0 hiX6 0 rfl rfl 32 (by decide) (List.mem_of_getElem? (i := 3) rfl) rfl dX6_one_116 ?_
        refine xaload_n h0 0 dX6_one_119 rfl rfl ?_
        refine xget (C := RX6) (T := TX6) (N := 52) (ci := 6) (v := .int (nI (n 6))) h0 hiX6 0 rfl rfl 45 (by decide) (List.mem_of_getElem? (i := 10) rfl) rfl dX6_one_120 ?_
        refine xncmp_gt (tgt := 145) h0 dX6_one_123 (by decide) (by first | omega | (have := hbb.2.2.2.2.2.2; omega)) (by first | omega | (have := hbb.2.2.2.2.2.2; omega)) (fun c_14 => ?_) (fun c_14 => ?_)
        · skip
          have hbe2 : bestS T 2 (Ls ++ [w]) = w := bestS_y (Or.inr (bt2.mpr (by have := hbb.2.2.2.2.2.2; omega)))
          refine xaload_n h0 0 dX6_one_145 rfl rfl ?_
          refine xaload_n h0 0 dX6_one_146 rfl rfl ?_
          refine xget (C := RX6) (T := TX6) (N := 52) (ci := 6) (v := .int (nI ((w).length))) h0 hiX6 0 rfl rfl 32 (by decide) (List.mem_of_getElem? (i := 3) rfl) rfl dX6_one_147 ?_
          refine xput (ws' := (wM cI cC md T k tm dy P pk ptm pdy hpi tg tl R sg sl (upN (upN (upN (upN (upN (upN (upN (upN (upN (upN (upN (upN u0.1 32 ((w).length)) 33 ((Ls).length)) 34 (onS (Ls))) 36 ((fwS T xo (Ls)).length)) 37 (onS (fwS T xo (Ls)))) 38 l0) 39 s0) 41 l1) 42 s1) 43 s2) 45 ((w).length)) 46 (n 3), upA (upA (upA (upA u0.2.1 31 G) 40 G0) 44 G1) 47 (AA 2), xo))) (C := RX6) (T := TX6) (N := 52) (ci := 6) (ty := tyX6 45) h0 hiX6 tyX6 tyX6_ok nmX6 0 rfl rfl 45 (by decide) (List.mem_of_getElem? (i := 10) rfl) rfl (by decide +kernel) (rfl) (rfl) (Nat.le_of_ble_eq_true rfl) dX6_one_150 rfl ?_
          refine xaload_n h0 0 dX6_one_153 rfl rfl ?_
          refine xiload_n h0 1 dX6_one_154 rfl rfl ?_
          refine xput (ws' := (wM cI cC md T k tm dy P pk ptm pdy hpi tg tl R sg sl (upN (upN (upN (upN (upN (upN (upN (upN (upN (upN (upN (upN u0.1 32 ((w).length)) 33 ((Ls).length)) 34 (onS (Ls))) 36 ((fwS T xo (Ls)).length)) 37 (onS (fwS T xo (Ls)))) 38 l0) 39 s0) 41 l1) 42 s1) 43 s2) 45 ((w).length)) 46 (tmS T w), upA (upA (upA (upA u0.2.1 31 G) 40 G0) 44 G1) 47 (AA 2), xo))) (C := RX6) (T := TX6) (N := 52) (ci := 6) (ty := tyX6 46) h0 hiX6 tyX6 tyX6_ok nmX6 0 rfl rfl 46 (by decide) (List.mem_of_getElem? (i := 11) rfl) rfl (by decide +kernel) (rfl) (rfl) (Nat.le_of_ble_eq_true rfl) dX6_one_155 rfl ?_
          refine xaload_n h0 0 dX6_one_158 rfl rfl ?_
          refine xaload_n h0 0 dX6_one_159 rfl rfl ?_
          refine xget (C := RX6) (T := TX6) (N := 52) (ci := 6) (v := .ref (md 47)) h0 hiX6 0 rfl rfl 47 (by decide) (List.mem_of_getElem? (i := 12) rfl) rfl dX6_one_160 ?_
          refine xcallV_v (nn := 1) (w2 := fun E_15 => (wM cI cC md T k tm dy P pk ptm pdy hpi tg tl R sg sl (upN (upN (upN (upN (upN (upN (upN (upN (upN (upN (upN (upN u0.1 32 ((w).length)) 33 ((Ls).length)) 34 (onS (Ls))) 36 ((fwS T xo (Ls)).length)) 37 (onS (fwS T xo (Ls)))) 38 l0) 39 s0) 41 l1) 42 s1) 43 s2) 45 ((w).length)) 46 (tmS T w), upA (upA (upA (upA u0.2.1 31 G) 40 G0) 44 G1) 47 E_15, xo))) (wr := []) (rest := []) h0 (c_X6_take_47 (xL κ) D cI cC md T k tm dy P pk ptm pdy hpi tg tl R sg sl (upN (upN (upN (upN (upN (upN (upN (upN (upN (upN (upN (upN u0.1 32 ((w).length)) 33 ((Ls).length)) 34 (onS (Ls))) 36 ((fwS T xo (Ls)).length)) 37 (onS (fwS T xo (Ls)))) 38 l0) 39 s0) 41 l1) 42 s1) 43 s2) 45 ((w).length)) 46 (tmS T w), upA (upA (upA (upA u0.2.1 31 G) 40 G0) 44 G1) 47 (AA 2), xo) w G hT hG (by assumption) (by assumption) (by assumption)) gX6_one_X6_take (by decide +kernel) rfl rfl rfl ⟨Nat.le_of_ble_eq_true rfl, Nat.le_of_ble_eq_true rfl⟩ ⟨by decide, by decide⟩ (fun _ _ _ _ h => h) (fun _ _ _ _ _ _ _ => trivial) rfl (Nat.le_of_ble_eq_true rfl) (q0 := 0) rfl rfl rfl [0, 1, 2, 3, 4, 5, 6, 7, 8, 9, 10, 11, 12, 13, 14, 15, 16, 17, 18, 19, 20, 21] [] [0, 1, 2, 3, 4, 5, 6, 7, 8, 9, 10, 11, 12, 13, 14, 15, 16, 17, 18, 19, 20, 21] ⟨rfl, rfl, rfl, rfl, rfl⟩ (fun _ => ⟨rfl, rfl⟩) dX6_one_163 (fun E_15 hE_16 => ?_)
          exact jc E_15 (tmS T w) ((w).length) (by rw [hbe2]; exact hE_16) (by first | (rw [hbe2]; done) | (rw [hbe2]; exact hbb.2.2.2.1)) (by first | (rw [hbe2]; done) | (rw [hbe2]; exact hbb.2.2.2.2.2.2))
        · skip
          refine xaload_n h0 0 dX6_one_126 rfl rfl ?_
          refine xget (C := RX6) (T := TX6) (N := 52) (ci := 6) (v := .int (nI ((w).length))) h0 hiX6 0 rfl rfl 32 (by decide) (List.mem_of_getElem? (i := 3) rfl) rfl dX6_one_127 ?_
          refine xaload_n h0 0 dX6_one_130 rfl rfl ?_
          refine xget (C := RX6) (T := TX6) (N := 52) (ci := 6) (v := .int (nI (n 6))) h0 hiX6 0 rfl rfl 45 (by decide) (List.mem_of_getElem? (i := 10) rfl) rfl dX6_one_131 ?_
          refine xncmp_ne (tgt := 166) h0 dX6_one_134 (by decide) (by first | omega | (have := hbb.2.2.2.2.2.2; omega)) (by first | omega | (have := hbb.2.2.2.2.2.2; omega)) (fun c_18 => ?_) (fun c_18 => ?_)
          · skip
            have hbe2 : bestS T 2 (Ls ++ [w]) = bestS T 2 Ls := bestS_n (fun z => z.elim (fun y => hne ((bestS_0 hL).mp y)) (fun y => by have := hbb.2.2.2.2.2.2; have := bt2.mp y; omega))
            exact jc (AA 2) (n 3) (n 6) (by rw [hbe2]; exact hb.2.2.1) (by first | (rw [hbe2]; done) | (rw [hbe2]; exact hbb.2.2.2.1)) (by first | (rw [hbe2]; done) | (rw [hbe2]; exact hbb.2.2.2.2.2.2))
          · skip
            refine xiload_n h0 1 dX6_one_137 rfl rfl ?_
            refine xaload_n h0 0 dX6_one_138 rfl rfl ?_
            refine xget (C := RX6) (T := TX6) (N := 52) (ci := 6) (v := .int (nI (n 3))) h0 hiX6 0 rfl rfl 46 (by decide) (List.mem_of_getElem? (i := 11) rfl) rfl dX6_one_139 ?_
            refine xncmp_le (tgt := 166) h0 dX6_one_142 (by decide) (by first | omega | (have := hbb.2.2.2.1; omega)) (by first | omega | (have := hbb.2.2.2.1; omega)) (fun c_19 => ?_) (fun c_19 => ?_)
            · skip
              have hbe2 : bestS T 2 (Ls ++ [w]) = bestS T 2 Ls := bestS_n (fun z => z.elim (fun y => hne ((bestS_0 hL).mp y)) (fun y => by have := hbb.2.2.2.1; have := hbb.2.2.2.2.2.2; have := bt2.mp y; omega))
              exact jc (AA 2) (n 3) (n 6) (by rw [hbe2]; exact hb.2.2.1) (by first | (rw [hbe2]; done) | (rw [hbe2]; exact hbb.2.2.2.1)) (by first | (rw [hbe2]; done) | (rw [hbe2]; exact hbb.2.2.2.2.2.2))
            · skip
              have hbe2 : bestS T 2 (Ls ++ [w]) = w := bestS_y (Or.inr (bt2.mpr (by have := hbb.2.2.2.1; have := hbb.2.2.2.2.2.2; omega)))
              refine xaload_n h0 0 dX6_one_145 rfl rfl ?_
              refine xaload_n h0 0 dX6_one_146 rfl rfl ?_
              refine xget (C := RX6) (T := TX6) (N := 52) (ci := 6) (v := .int (nI ((w).length))) h0 hiX6 0 rfl rfl 32 (by decide) (List.mem_of_getElem? (i := 3) rfl) rfl dX6_one_147 ?_
              refine xput (ws' := (wM cI cC md T k tm dy P pk ptm pdy hpi tg tl R sg sl (upN (upN (upN (upN (upN (upN (upN (upN (upN (upN (upN (upN u0.1 32 ((w).length)) 33 ((Ls).length)) 34 (onS (Ls))) 36 ((fwS T xo (Ls)).length)) 37 (onS (fwS T xo (Ls)))) 38 l0) 39 s0) 41 l1) 42 s1) 43 s2) 45 ((w).length)) 46 (n 3), upA (upA (upA (upA u0.2.1 31 G) 40 G0) 44 G1) 47 (AA 2), xo))) (C := RX6) (T := TX6) (N := 52) (ci := 6) (ty := tyX6 45) h0 hiX6 tyX6 tyX6_ok nmX6 0 rfl rfl 45 (by decide) (List.mem_of_getElem? (i := 10) rfl) rfl (by decide +kernel) (rfl) (rfl) (Nat.le_of_ble_eq_true rfl) dX6_one_150 rfl ?_
              refine xaload_n h0 0 dX6_one_153 rfl rfl ?_
              refine xiload_n h0 1 dX6_one_154 rfl rfl ?_
              refine xput (ws' := (wM cI cC md T k tm dy P pk ptm pdy hpi tg tl R sg sl (upN (upN (upN (upN (upN (upN (upN (upN (upN (upN (upN (upN u0.1 32 ((w).length)) 33 ((Ls).length)) 34 (onS (Ls))) 36 ((fwS T xo (Ls)).length)) 37 (onS (fwS T xo (Ls)))) 38 l0) 39 s0) 41 l1) 42 s1) 43 s2) 45 ((w).length)) 46 (tmS T w), upA (upA (upA (upA u0.2.1 31 G) 40 G0) 44 G1) 47 (AA 2), xo))) (C := RX6) (T := TX6) (N := 52) (ci := 6) (ty := tyX6 46) h0 hiX6 tyX6 tyX6_ok nmX6 0 rfl rfl 46 (by decide) (List.mem_of_getElem? (i := 11) rfl) rfl (by decide +kernel) (rfl) (rfl) (Nat.le_of_ble_eq_true rfl) dX6_one_155 rfl ?_
              refine xaload_n h0 0 dX6_one_158 rfl rfl ?_
              refine xaload_n h0 0 dX6_one_159 rfl rfl ?_
              refine xget (C := RX6) (T := TX6) (N := 52) (ci := 6) (v := .ref (md 47)) h0 hiX6 0 rfl rfl 47 (by decide) (List.mem_of_getElem? (i := 12) rfl) rfl dX6_one_160 ?_
              refine xcallV_v (nn := 1) (w2 := fun E_20 => (wM cI cC md T k tm dy P pk ptm pdy hpi tg tl R sg sl (upN (upN (upN (upN (upN (upN (upN (upN (upN (upN (upN (upN u0.1 32 ((w).length)) 33 ((Ls).length)) 34 (onS (Ls))) 36 ((fwS T xo (Ls)).length)) 37 (onS (fwS T xo (Ls)))) 38 l0) 39 s0) 41 l1) 42 s1) 43 s2) 45 ((w).length)) 46 (tmS T w), upA (upA (upA (upA u0.2.1 31 G) 40 G0) 44 G1) 47 E_20, xo))) (wr := []) (rest := []) h0 (c_X6_take_47 (xL κ) D cI cC md T k tm dy P pk ptm pdy hpi tg tl R sg sl (upN (upN (upN (upN (upN (upN (upN (upN (upN (upN (upN (upN u0.1 32 ((w).length)) 33 ((Ls).length)) 34 (onS (Ls))) 36 ((fwS T xo (Ls)).length)) 37 (onS (fwS T xo (Ls)))) 38 l0) 39 s0) 41 l1) 42 s1) 43 s2) 45 ((w).length)) 46 (tmS T w), upA (upA (upA (upA u0.2.1 31 G) 40 G0) 44 G1) 47 (AA 2), xo) w G hT hG (by assumption) (by assumption) (by assumption)) gX6_one_X6_take (by decide +kernel) rfl rfl rfl ⟨Nat.le_of_ble_eq_true rfl, Nat.le_of_ble_eq_true rfl⟩ ⟨by decide, by decide⟩ (fun _ _ _ _ h => h) (fun _ _ _ _ _ _ _ => trivial) rfl (Nat.le_of_ble_eq_true rfl) (q0 := 0) rfl rfl rfl [0, 1, 2, 3, 4, 5, 6, 7, 8, 9, 10, 11, 12, 13, 14, 15, 16, 17, 18, 19, 20, 21] [] [0, 1, 2, 3, 4, 5, 6, 7, 8, 9, 10, 11, 12, 13, 14, 15, 16, 17, 18, 19, 20, 21] ⟨rfl, rfl, rfl, rfl, rfl⟩ (fun _ => ⟨rfl, rfl⟩) dX6_one_163 (fun E_20 hE_21 => ?_)
              exact jc E_20 (tmS T w) ((w).length) (by rw [hbe2]; exact hE_21) (by first | (rw [hbe2]; done) | (rw [hbe2]; exact hbb.2.2.2.1)) (by first | (rw [hbe2]; done) | (rw [hbe2]; exact hbb.2.2.2.2.2.2))
    refine xaload_n h0 0 dX6_one_51 rfl rfl ?_
    refine xget (C := RX6) (T := TX6) (N := 52) (ci := 6) (v := .int (nI ((Ls).length))) h0 hiX6 0 rfl rfl 33 (by decide) (List.mem_of_getElem? (i := 1) rfl) rfl dX6_one_52 ?_
    refine xnif_eq (tgt := 82) h0 dX6_one_55 (by decide) (by omega) (fun c_23 => ?_) (fun c_23 => ?_)
    · skip
      have hz0 : (Ls).length = 0 := by omega
      have hbe1 : bestS T 1 (Ls ++ [w]) = w := bestS_y (Or.inl ((bestS_0 hL).mpr (List.length_eq_zero_iff.mp hz0)))
      refine xaload_n h0 0 dX6_one_82 rfl rfl ?_
      refine xiload_n h0 2 dX6_one_83 rfl rfl ?_
      refine xput (ws' := (wM cI cC md T k tm dy P pk ptm pdy hpi tg tl R sg sl (upN (upN (upN (upN (upN (upN (upN (upN (upN (upN (upN (upN u0.1 32 ((w).length)) 33 ((Ls).length)) 34 (onS (Ls))) 36 ((fwS T xo (Ls)).length)) 37 (onS (fwS T xo (Ls)))) 38 l0) 39 s0) 41 (n 5)) 42 (rgS T w)) 43 (n 2)) 45 (n 6)) 46 (n 3), upA (upA (upA (upA u0.2.1 31 G) 40 G0) 44 (AA 1)) 47 (AA 2), xo))) (C := RX6) (T := TX6) (N := 52) (ci := 6) (ty := tyX6 42) h0 hiX6 tyX6 tyX6_ok nmX6 0 rfl rfl 42 (by decide) (List.mem_of_getElem? (i := 6) rfl) rfl (by decide +kernel) (rfl) (rfl) (Nat.le_of_ble_eq_true rfl) dX6_one_84 rfl ?_
      refine xaload_n h0 0 dX6_one_87 rfl rfl ?_
      refine xiload_n h0 1 dX6_one_88 rfl rfl ?_
      refine xput (ws' := (wM cI cC md T k tm dy P pk ptm pdy hpi tg tl R sg sl (upN (upN (upN (upN (upN (upN (upN (upN (upN (upN (upN (upN u0.1 32 ((w).length)) 33 ((Ls).length)) 34 (onS (Ls))) 36 ((fwS T xo (Ls)).length)) 37 (onS (fwS T xo (Ls)))) 38 l0) 39 s0) 41 (n 5)) 42 (rgS T w)) 43 (tmS T w)) 45 (n 6)) 46 (n 3), upA (upA (upA (upA u0.2.1 31 G) 40 G0) 44 (AA 1)) 47 (AA 2), xo))) (C := RX6) (T := TX6) (N := 52) (ci := 6) (ty := tyX6 43) h0 hiX6 tyX6 tyX6_ok nmX6 0 rfl rfl 43 (by decide) (List.mem_of_getElem? (i := 7) rfl) rfl (by decide +kernel) (rfl) (rfl) (Nat.le_of_ble_eq_true rfl) dX6_one_89 rfl ?_
      refine xaload_n h0 0 dX6_one_92 rfl rfl ?_
      refine xaload_n h0 0 dX6_one_93 rfl rfl ?_
      refine xget (C := RX6) (T := TX6) (N := 52) (ci := 6) (v := .int (nI ((w).length))) h0 hiX6 0 rfl rfl 32 (by decide) (List.mem_of_getElem? (i := 3) rfl) rfl dX6_one_94 ?_
      refine xput (ws' := (wM cI cC md T k tm dy P pk ptm pdy hpi tg tl R sg sl (upN (upN (upN (upN (upN (upN (upN (upN (upN (upN (upN (upN u0.1 32 ((w).length)) 33 ((Ls).length)) 34 (onS (Ls))) 36 ((fwS T xo (Ls)).length)) 37 (onS (fwS T xo (Ls)))) 38 l0) 39 s0) 41 ((w).length)) 42 (rgS T w)) 43 (tmS T w)) 45 (n 6)) 46 (n 3), upA (upA (upA (upA u0.2.1 31 G) 40 G0) 44 (AA 1)) 47 (AA 2), xo))) (C := RX6) (T := TX6) (N := 52) (ci := 6) (ty := tyX6 41) h0 hiX6 tyX6 tyX6_ok nmX6 0 rfl rfl 41 (by decide) (List.mem_of_getElem? (i := 8) rfl) rfl (by decide +kernel) (rfl) (rfl) (Nat.le_of_ble_eq_true rfl) dX6_one_97 rfl ?_
      refine xaload_n h0 0 dX6_one_100 rfl rfl ?_
      refine xaload_n h0 0 dX6_one_101 rfl rfl ?_
      refine xget (C := RX6) (T := TX6) (N := 52) (ci := 6) (v := .ref (md 44)) h0 hiX6 0 rfl rfl 44 (by decide) (List.mem_of_getElem? (i := 9) rfl) rfl dX6_one_102 ?_
      refine xcallV_v (nn := 1) (w2 := fun E_24 => (wM cI cC md T k tm dy P pk ptm pdy hpi tg tl R sg sl (upN (upN (upN (upN (upN (upN (upN (upN (upN (upN (upN (upN u0.1 32 ((w).length)) 33 ((Ls).length)) 34 (onS (Ls))) 36 ((fwS T xo (Ls)).length)) 37 (onS (fwS T xo (Ls)))) 38 l0) 39 s0) 41 ((w).length)) 42 (rgS T w)) 43 (tmS T w)) 45 (n 6)) 46 (n 3), upA (upA (upA (upA u0.2.1 31 G) 40 G0) 44 E_24) 47 (AA 2), xo))) (wr := []) (rest := []) h0 (c_X6_take_44 (xL κ) D cI cC md T k tm dy P pk ptm pdy hpi tg tl R sg sl (upN (upN (upN (upN (upN (upN (upN (upN (upN (upN (upN (upN u0.1 32 ((w).length)) 33 ((Ls).length)) 34 (onS (Ls))) 36 ((fwS T xo (Ls)).length)) 37 (onS (fwS T xo (Ls)))) 38 l0) 39 s0) 41 ((w).length)) 42 (rgS T w)) 43 (tmS T w)) 45 (n 6)) 46 (n 3), upA (upA (upA (upA u0.2.1 31 G) 40 G0) 44 (AA 1)) 47 (AA 2), xo) w G hT hG (by assumption) (by assumption) (by assumption)) gX6_one_X6_take (by decide +kernel) rfl rfl rfl ⟨Nat.le_of_ble_eq_true rfl, Nat.le_of_ble_eq_true rfl⟩ ⟨by decide, by decide⟩ (fun _ _ _ _ h => h) (fun _ _ _ _ _ _ _ => trivial) rfl (Nat.le_of_ble_eq_true rfl) (q0 := 0) rfl rfl rfl [0, 1, 2, 3, 4, 5, 6, 7, 8, 9, 10, 11, 12, 13, 14, 15, 16, 17, 18, 19, 20, 21] [] [0, 1, 2, 3, 4, 5, 6, 7, 8, 9, 10, 11, 12, 13, 14, 15, 16, 17, 18, 19, 20, 21] ⟨rfl, rfl, rfl, rfl, rfl⟩ (fun _ => ⟨rfl, rfl⟩) dX6_one_105 (fun E_24 hE_25 => ?_)
      exact jb E_24 (rgS T w) (tmS T w) ((w).length) (by rw [hbe1]; exact hE_25) (by first | (rw [hbe1]; done) | (rw [hbe1]; exact hbb.2.1)) (by first | (rw [hbe1]; done) | (rw [hbe1]; exact hbb.2.2.1)) (by first | (rw [hbe1]; done) | (rw [hbe1]; exact hbb.2.2.2.2.2.1))
    · skip
      have hne : Ls ≠ [] := fun z => by rw [z] at c_23; exact absurd c_23 (by decide)
      have hbb := hb.2.2.2 hne
      refine xiload_n h0 2 dX6_one_58 rfl rfl ?_
      refine xaload_n h0 0 dX6_one_59 rfl rfl ?_
      refine xget (C := RX6) (T := TX6) (N := 52) (ci := 6) (v := .int (nI (n 1))) h0 hiX6 0 rfl rfl 42 (by decide) (List.mem_of_getElem? (i := 6) rfl) rfl dX6_one_60 ?_
      refine xncmp_gt (tgt := 82) h0 dX6_one_63 (by decide) (by first | omega | (have := hbb.2.1; omega)) (by first | omega | (have := hbb.2.1; omega)) (fun c_27 => ?_) (fun c_27 => ?_)
      · skip
        have hbe1 : bestS T 1 (Ls ++ [w]) = w := bestS_y (Or.inr (bt1.mpr (by have := hbb.2.1; omega)))
        refine xaload_n h0 0 dX6_one_82 rfl rfl ?_
        refine xiload_n h0 2 dX6_one_83 rfl rfl ?_
        refine xput (ws' := (wM cI cC md T k tm dy P pk ptm pdy hpi tg tl R sg sl (upN (upN (upN (upN (upN (upN (upN (upN (upN (upN (upN (upN u0.1 32 ((w).length)) 33 ((Ls).length)) 34 (onS (Ls))) 36 ((fwS T xo (Ls)).length)) 37 (onS (fwS T xo (Ls)))) 38 l0) 39 s0) 41 (n 5)) 42 (rgS T w)) 43 (n 2)) 45 (n 6)) 46 (n 3), upA (upA (upA (upA u0.2.1 31 G) 40 G0) 44 (AA 1)) 47 (AA 2), xo))) (C := RX6) (T := TX6) (N := 52) (ci := 6) (ty := tyX6 42) h0 hiX6 tyX6 tyX6_ok nmX6 0 rfl rfl 42 (by decide) (List.mem_of_getElem? (i := 6) rfl) rfl (by decide +kernel) (rfl) (rfl) (Nat.le_of_ble_eq_true rfl) dX6_one_84 rfl ?_
        refine xaload_n h0 0 dX6_one_87 rfl rfl ?_
        refine xiload_n h0 1 dX6_one_88 rfl rfl ?_
        refine xput (ws' := (wM cI cC md T k tm dy P pk ptm pdy hpi tg tl R sg sl (upN (upN (upN (upN (upN (upN (upN (upN (upN (upN (upN (upN u0.1 32 ((w).length)) 33 ((Ls).length)) 34 (onS (Ls))) 36 ((fwS T xo (Ls)).length)) 37 (onS (fwS T xo (Ls)))) 38 l0) 39 s0) 41 (n 5)) 42 (rgS T w)) 43 (tmS T w)) 45 (n 6)) 46 (n 3), upA (upA (upA (upA u0.2.1 31 G) 40 G0) 44 (AA 1)) 47 (AA 2), xo))) (C := RX6) (T := TX6) (N := 52) (ci := 6) (ty := tyX6 43) h0 hiX6 tyX6 tyX6_ok nmX6 0 rfl rfl 43 (by decide) (List.mem_of_getElem? (i := 7) rfl) rfl (by decide +kernel) (rfl) (rfl) (Nat.le_of_ble_eq_true rfl) dX6_one_89 rfl ?_
        refine xaload_n h0 0 dX6_one_92 rfl rfl ?_
        refine xaload_n h0 0 dX6_one_93 rfl rfl ?_
        refine xget (C := RX6) (T := TX6) (N := 52) (ci := 6) (v := .int (nI ((w).length))) h0 hiX6 0 rfl rfl 32 (by decide) (List.mem_of_getElem? (i := 3) rfl) rfl dX6_one_94 ?_
        refine xput (ws' := (wM cI cC md T k tm dy P pk ptm pdy hpi tg tl R sg sl (upN (upN (upN (upN (upN (upN (upN (upN (upN (upN (upN (upN u0.1 32 ((w).length)) 33 ((Ls).length)) 34 (onS (Ls))) 36 ((fwS T xo (Ls)).length)) 37 (onS (fwS T xo (Ls)))) 38 l0) 39 s0) 41 ((w).length)) 42 (rgS T w)) 43 (tmS T w)) 45 (n 6)) 46 (n 3), upA (upA (upA (upA u0.2.1 31 G) 40 G0) 44 (AA 1)) 47 (AA 2), xo))) (C := RX6) (T := TX6) (N := 52) (ci := 6) (ty := tyX6 41) h0 hiX6 tyX6 tyX6_ok nmX6 0 rfl rfl 41 (by decide) (List.mem_of_getElem? (i := 8) rfl) rfl (by decide +kernel) (rfl) (rfl) (Nat.le_of_ble_eq_true rfl) dX6_one_97 rfl ?_
        refine xaload_n h0 0 dX6_one_100 rfl rfl ?_
        refine xaload_n h0 0 dX6_one_101 rfl rfl ?_
        refine xget (C := RX6) (T := TX6) (N := 52) (ci := 6) (v := .ref (md 44)) h0 hiX6 0 rfl rfl 44 (by decide) (List.mem_of_getElem? (i := 9) rfl) rfl dX6_one_102 ?_
        refine xcallV_v (nn := 1) (w2 := fun E_28 => (wM cI cC md T k tm dy P pk ptm pdy hpi tg tl R sg sl (upN (upN (upN (upN (upN (upN (upN (upN (upN (upN (upN (upN u0.1 32 ((w).length)) 33 ((Ls).length)) 34 (onS (Ls))) 36 ((fwS T xo (Ls)).length)) 37 (onS (fwS T xo (Ls)))) 38 l0) 39 s0) 41 ((w).length)) 42 (rgS T w)) 43 (tmS T w)) 45 (n 6)) 46 (n 3), upA (upA (upA (upA u0.2.1 31 G) 40 G0) 44 E_28) 47 (AA 2), xo))) (wr := []) (rest := []) h0 (c_X6_take_44 (xL κ) D cI cC md T k tm dy P pk ptm pdy hpi tg tl R sg sl (upN (upN (upN (upN (upN (upN (upN (upN (upN (upN (upN (upN u0.1 32 ((w).length)) 33 ((Ls).length)) 34 (onS (Ls))) 36 ((fwS T xo (Ls)).length)) 37 (onS (fwS T xo (Ls)))) 38 l0) 39 s0) 41 ((w).length)) 42 (rgS T w)) 43 (tmS T w)) 45 (n 6)) 46 (n 3), upA (upA (upA (upA u0.2.1 31 G) 40 G0) 44 (AA 1)) 47 (AA 2), xo) w G hT hG (by assumption) (by assumption) (by assumption)) gX6_one_X6_take (by decide +kernel) rfl rfl rfl ⟨Nat.le_of_ble_eq_true rfl, Nat.le_of_ble_eq_true rfl⟩ ⟨by decide, by decide⟩ (fun _ _ _ _ h => h) (fun _ _ _ _ _ _ _ => trivial) rfl (Nat.le_of_ble_eq_true rfl) (q0 := 0) rfl rfl rfl [0, 1, 2, 3, 4, 5, 6, 7, 8, 9, 10, 11, 12, 13, 14, 15, 16, 17, 18, 19, 20, 21] [] [0, 1, 2, 3, 4, 5, 6, 7, 8, 9, 10, 11, 12, 13, 14, 15, 16, 17, 18, 19, 20, 21] ⟨rfl, rfl, rfl, rfl, rfl⟩ (fun _ => ⟨rfl, rfl⟩) dX6_one_105 (fun E_28 hE_29 => ?_)
        exact jb E_28 (rgS T w) (tmS T w) ((w).length) (by rw [hbe1]; exact hE_29) (by first | (rw [hbe1]; done) | (rw [hbe1]; exact hbb.2.1)) (by first | (rw [hbe1]; done) | (rw [hbe1]; exact hbb.2.2.1)) (by first | (rw [hbe1]; done) | (rw [hbe1]; exact hbb.2.2.2.2.2.1))
      · skip
        refine xiload_n h0 2 dX6_one_66 rfl rfl ?_
        refine xaload_n h0 0 dX6_one_67 rfl rfl ?_
        refine xget (C := RX6) (T := TX6) (N := 52) (ci := 6) (v := .int (nI (n 1))) h0 hiX6 0 rfl rfl 42 (by decide) (List.mem_of_getElem? (i := 6) rfl) rfl dX6_one_68 ?_
        refine xncmp_ne (tgt := 108) h0 dX6_one_71 (by decide) (by first | omega | (have := hbb.2.1; omega)) (by first | omega | (have := hbb.2.1; omega)) (fun c_31 => ?_) (fun c_31 => ?_)
        · skip
          have hbe1 : bestS T 1 (Ls ++ [w]) = bestS T 1 Ls := bestS_n (fun z => z.elim (fun y => hne ((bestS_0 hL).mp y)) (fun y => by have := hbb.2.1; have := bt1.mp y; omega))
          exact jb (AA 1) (n 1) (n 2) (n 5) (by rw [hbe1]; exact hb.2.1) (by first | (rw [hbe1]; done) | (rw [hbe1]; exact hbb.2.1)) (by first | (rw [hbe1]; done) | (rw [hbe1]; exact hbb.2.2.1)) (by first | (rw [hbe1]; done) | (rw [hbe1]; exact hbb.2.2.2.2.2.1))
        · skip
          refine xiload_n h0 1 dX6_one_74 rfl rfl ?_
          refine xaload_n h0 0 dX6_one_75 rfl rfl ?_
          refine xget (C := RX6) (T := TX6) (N := 52) (ci := 6) (v := .int (nI (n 2))) h0 hiX6 0 rfl rfl 43 (by decide) (List.mem_of_getElem? (i := 7) rfl) rfl dX6_one_76 ?_
          refine xncmp_ge (tgt := 108) h0 dX6_one_79 (by decide) (by first | omega | (have := hbb.2.2.1; omega)) (by first | omega | (have := hbb.2.2.1; omega)) (fun c_32 => ?_) (fun c_32 => ?_)
          · skip
            have hbe1 : bestS T 1 (Ls ++ [w]) = bestS T 1 Ls := bestS_n (fun z => z.elim (fun y => hne ((bestS_0 hL).mp y)) (fun y => by have := hbb.2.1; have := hbb.2.2.1; have := bt1.mp y; omega))
            exact jb (AA 1) (n 1) (n 2) (n 5) (by rw [hbe1]; exact hb.2.1) (by first | (rw [hbe1]; done) | (rw [hbe1]; exact hbb.2.1)) (by first | (rw [hbe1]; done) | (rw [hbe1]; exact hbb.2.2.1)) (by first | (rw [hbe1]; done) | (rw [hbe1]; exact hbb.2.2.2.2.2.1))
          · skip
            have hbe1 : bestS T 1 (Ls ++ [w]) = w := bestS_y (Or.inr (bt1.mpr (by have := hbb.2.1; have := hbb.2.2.1; omega)))
            refine xaload_n h0 0 dX6_one_82 rfl rfl ?_
            refine xiload_n h0 2 dX6_one_83 rfl rfl ?_
            refine xput (ws' := (wM cI cC md T k tm dy P pk ptm pdy hpi tg tl R sg sl (upN (upN (upN (upN (upN (upN (upN (upN (upN (upN (upN (upN u0.1 32 ((w).length)) 33 ((Ls).length)) 34 (onS (Ls))) 36 ((fwS T xo (Ls)).length)) 37 (onS (fwS T xo (Ls)))) 38 l0) 39 s0) 41 (n 5)) 42 (rgS T w)) 43 (n 2)) 45 (n 6)) 46 (n 3), upA (upA (upA (upA u0.2.1 31 G) 40 G0) 44 (AA 1)) 47 (AA 2), xo))) (C := RX6) (T := TX6) (N := 52) (ci := 6) (ty := tyX6 42) h0 hiX6 tyX6 tyX6_ok nmX6 0 rfl rfl 42 (by decide) (List.mem_of_getElem? (i := 6) rfl) rfl (by decide +kernel) (rfl) (rfl) (Nat.le_of_ble_eq_true rfl) dX6_one_84 rfl ?_
            refine xaload_n h0 0 dX6_one_87 rfl rfl ?_
            refine xiload_n h0 1 dX6_one_88 rfl rfl ?_
            refine xput (ws' := (wM cI cC md T k tm dy P pk ptm pdy hpi tg tl R sg sl (upN (upN (upN (upN (upN (upN (upN (upN (upN (upN (upN (upN u0.1 32 ((w).length)) 33 ((Ls).length)) 34 (onS (Ls))) 36 ((fwS T xo (Ls)).length)) 37 (onS (fwS T xo (Ls)))) 38 l0) 39 s0) 41 (n 5)) 42 (rgS T w)) 43 (tmS T w)) 45 (n 6)) 46 (n 3), upA (upA (upA (upA u0.2.1 31 G) 40 G0) 44 (AA 1)) 47 (AA 2), xo))) (C := RX6) (T := TX6) (N := 52) (ci := 6) (ty := tyX6 43) h0 hiX6 tyX6 tyX6_ok nmX6 0 rfl rfl 43 (by decide) (List.mem_of_getElem? (i := 7) rfl) rfl (by decide +kernel) (rfl) (rfl) (Nat.le_of_ble_eq_true rfl) dX6_one_89 rfl ?_
            refine xaload_n h0 0 dX6_one_92 rfl rfl ?_
            refine xaload_n h0 0 dX6_one_93 rfl rfl ?_
            refine xget (C := RX6) (T := TX6) (N := 52) (ci := 6) (v := .int (nI ((w).length))) h0 hiX6 0 rfl rfl 32 (by decide) (List.mem_of_getElem? (i := 3) rfl) rfl dX6_one_94 ?_
            refine xput (ws' := (wM cI cC md T k tm dy P pk ptm pdy hpi tg tl R sg sl (upN (upN (upN (upN (upN (upN (upN (upN (upN (upN (upN (upN u0.1 32 ((w).length)) 33 ((Ls).length)) 34 (onS (Ls))) 36 ((fwS T xo (Ls)).length)) 37 (onS (fwS T xo (Ls)))) 38 l0) 39 s0) 41 ((w).length)) 42 (rgS T w)) 43 (tmS T w)) 45 (n 6)) 46 (n 3), upA (upA (upA (upA u0.2.1 31 G) 40 G0) 44 (AA 1)) 47 (AA 2), xo))) (C := RX6) (T := TX6) (N := 52) (ci := 6) (ty := tyX6 41) h0 hiX6 tyX6 tyX6_ok nmX6 0 rfl rfl 41 (by decide) (List.mem_of_getElem? (i := 8) rfl) rfl (by decide +kernel) (rfl) (rfl) (Nat.le_of_ble_eq_true rfl) dX6_one_97 rfl ?_
            refine xaload_n h0 0 dX6_one_100 rfl rfl ?_
            refine xaload_n h0 0 dX6_one_101 rfl rfl ?_
            refine xget (C := RX6) (T := TX6) (N := 52) (ci := 6) (v := .ref (md 44)) h0 hiX6 0 rfl rfl 44 (by decide) (List.mem_of_getElem? (i := 9) rfl) rfl dX6_one_102 ?_
            refine xcallV_v (nn := 1) (w2 := fun E_33 => (wM cI cC md T k tm dy P pk ptm pdy hpi tg tl R sg sl (upN (upN (upN (upN (upN (upN (upN (upN (upN (upN (upN (upN u0.1 32 ((w).length)) 33 ((Ls).length)) 34 (onS (Ls))) 36 ((fwS T xo (Ls)).length)) 37 (onS (fwS T xo (Ls)))) 38 l0) 39 s0) 41 ((w).length)) 42 (rgS T w)) 43 (tmS T w)) 45 (n 6)) 46 (n 3), upA (upA (upA (upA u0.2.1 31 G) 40 G0) 44 E_33) 47 (AA 2), xo))) (wr := []) (rest := []) h0 (c_X6_take_44 (xL κ) D cI cC md T k tm dy P pk ptm pdy hpi tg tl R sg sl (upN (upN (upN (upN (upN (upN (upN (upN (upN (upN (upN (upN u0.1 32 ((w).length)) 33 ((Ls).length)) 34 (onS (Ls))) 36 ((fwS T xo (Ls)).length)) 37 (onS (fwS T xo (Ls)))) 38 l0) 39 s0) 41 ((w).length)) 42 (rgS T w)) 43 (tmS T w)) 45 (n 6)) 46 (n 3), upA (upA (upA (upA u0.2.1 31 G) 40 G0) 44 (AA 1)) 47 (AA 2), xo) w G hT hG (by assumption) (by assumption) (by assumption)) gX6_one_X6_take (by decide +kernel) rfl rfl rfl ⟨Nat.le_of_ble_eq_true rfl, Nat.le_of_ble_eq_true rfl⟩ ⟨by decide, by decide⟩ (fun _ _ _ _ h => h) (fun _ _ _ _ _ _ _ => trivial) rfl (Nat.le_of_ble_eq_true rfl) (q0 := 0) rfl rfl rfl [0, 1, 2, 3, 4, 5, 6, 7, 8, 9, 10, 11, 12, 13, 14, 15, 16, 17, 18, 19, 20, 21] [] [0, 1, 2, 3, 4, 5, 6, 7, 8, 9, 10, 11, 12, 13, 14, 15, 16, 17, 18, 19, 20, 21] ⟨rfl, rfl, rfl, rfl, rfl⟩ (fun _ => ⟨rfl, rfl⟩) dX6_one_105 (fun E_33 hE_34 => ?_)
            exact jb E_33 (rgS T w) (tmS T w) ((w).length) (by rw [hbe1]; exact hE_34) (by first | (rw [hbe1]; done) | (rw [hbe1]; exact hbb.2.1)) (by first | (rw [hbe1]; done) | (rw [hbe1]; exact hbb.2.2.1)) (by first | (rw [hbe1]; done) | (rw [hbe1]; exact hbb.2.2.2.2.2.1))
  refine xaload_n h0 3 dX6_one_15 rfl rfl ?_
  refine xget (C := RX6) (T := TX6) (N := 52) (ci := 6) (v := .int (nI ((Ls).length))) h0 hiX6 0 rfl rfl 33 (by decide) (List.mem_of_getElem? (i := 1) rfl) rfl dX6_one_16 ?_
  refine xnif_eq (tgt := 30) h0 dX6_one_19 (by decide) (by omega) (fun c_36 => ?_) (fun c_36 => ?_)
  · skip
    have hz0 : (Ls).length = 0 := by omega
    have hbe0 : bestS T 0 (Ls ++ [w]) = w := bestS_y (Or.inl ((bestS_0 hL).mpr (List.length_eq_zero_iff.mp hz0)))
    refine xaload_n h0 3 dX6_one_30 rfl rfl ?_
    refine xiload_n h0 2 dX6_one_31 rfl rfl ?_
    refine xput (ws' := (wM cI cC md T k tm dy P pk ptm pdy hpi tg tl R sg sl (upN (upN (upN (upN (upN (upN (upN (upN (upN (upN (upN (upN u0.1 32 ((w).length)) 33 ((Ls).length)) 34 (onS (Ls))) 36 ((fwS T xo (Ls)).length)) 37 (onS (fwS T xo (Ls)))) 38 (n 4)) 39 (tmS T w)) 41 (n 5)) 42 (n 1)) 43 (n 2)) 45 (n 6)) 46 (n 3), upA (upA (upA (upA u0.2.1 31 G) 40 (AA 0)) 44 (AA 1)) 47 (AA 2), xo))) (C := RX6) (T := TX6) (N := 52) (ci := 6) (ty := tyX6 39) h0 hiX6 tyX6 tyX6_ok nmX6 0 rfl rfl 39 (by decide) (List.mem_of_getElem? (i := 2) rfl) rfl (by decide +kernel) (rfl) (rfl) (Nat.le_of_ble_eq_true rfl) dX6_one_32 rfl ?_
    refine xaload_n h0 3 dX6_one_35 rfl rfl ?_
    refine xaload_n h0 3 dX6_one_36 rfl rfl ?_
    refine xget (C := RX6) (T := TX6) (N := 52) (ci := 6) (v := .int (nI ((w).length))) h0 hiX6 0 rfl rfl 32 (by decide) (List.mem_of_getElem? (i := 3) rfl) rfl dX6_one_37 ?_
    refine xput (ws' := (wM cI cC md T k tm dy P pk ptm pdy hpi tg tl R sg sl (upN (upN (upN (upN (upN (upN (upN (upN (upN (upN (upN (upN u0.1 32 ((w).length)) 33 ((Ls).length)) 34 (onS (Ls))) 36 ((fwS T xo (Ls)).length)) 37 (onS (fwS T xo (Ls)))) 38 ((w).length)) 39 (tmS T w)) 41 (n 5)) 42 (n 1)) 43 (n 2)) 45 (n 6)) 46 (n 3), upA (upA (upA (upA u0.2.1 31 G) 40 (AA 0)) 44 (AA 1)) 47 (AA 2), xo))) (C := RX6) (T := TX6) (N := 52) (ci := 6) (ty := tyX6 38) h0 hiX6 tyX6 tyX6_ok nmX6 0 rfl rfl 38 (by decide) (List.mem_of_getElem? (i := 4) rfl) rfl (by decide +kernel) (rfl) (rfl) (Nat.le_of_ble_eq_true rfl) dX6_one_40 rfl ?_
    refine xaload_n h0 3 dX6_one_43 rfl rfl ?_
    refine xaload_n h0 3 dX6_one_44 rfl rfl ?_
    refine xget (C := RX6) (T := TX6) (N := 52) (ci := 6) (v := .ref (md 40)) h0 hiX6 0 rfl rfl 40 (by decide) (List.mem_of_getElem? (i := 5) rfl) rfl dX6_one_45 ?_
    refine xcallV_v (nn := 1) (w2 := fun E_37 => (wM cI cC md T k tm dy P pk ptm pdy hpi tg tl R sg sl (upN (upN (upN (upN (upN (upN (upN (upN (upN (upN (upN (upN u0.1 32 ((w).length)) 33 ((Ls).length)) 34 (onS (Ls))) 36 ((fwS T xo (Ls)).length)) 37 (onS (fwS T xo (Ls)))) 38 ((w).length)) 39 (tmS T w)) 41 (n 5)) 42 (n 1)) 43 (n 2)) 45 (n 6)) 46 (n 3), upA (upA (upA (upA u0.2.1 31 G) 40 E_37) 44 (AA 1)) 47 (AA 2), xo))) (wr := []) (rest := []) h0 (c_X6_take_40 (xL κ) D cI cC md T k tm dy P pk ptm pdy hpi tg tl R sg sl (upN (upN (upN (upN (upN (upN (upN (upN (upN (upN (upN (upN u0.1 32 ((w).length)) 33 ((Ls).length)) 34 (onS (Ls))) 36 ((fwS T xo (Ls)).length)) 37 (onS (fwS T xo (Ls)))) 38 ((w).length)) 39 (tmS T w)) 41 (n 5)) 42 (n 1)) 43 (n 2)) 45 (n 6)) 46 (n 3), upA (upA (upA (upA u0.2.1 31 G) 40 (AA 0)) 44 (AA 1)) 47 (AA 2), xo) w G hT hG (by assumption) (by assumption) (by assumption)) gX6_one_X6_take (by decide +kernel) rfl rfl rfl ⟨Nat.le_of_ble_eq_true rfl, Nat.le_of_ble_eq_true rfl⟩ ⟨by decide, by decide⟩ (fun _ _ _ _ h => h) (fun _ _ _ _ _ _ _ => trivial) rfl (Nat.le_of_ble_eq_true rfl) (q0 := 0) rfl rfl rfl [0, 1, 2, 3, 4, 5, 6, 7, 8, 9, 10, 11, 12, 13, 14, 15, 16, 17, 18, 19, 20, 21] [] [0, 1, 2, 3, 4, 5, 6, 7, 8, 9, 10, 11, 12, 13, 14, 15, 16, 17, 18, 19, 20, 21] ⟨rfl, rfl, rfl, rfl, rfl⟩ (fun _ => ⟨rfl, rfl⟩) dX6_one_48 (fun E_37 hE_38 => ?_)
    refine xlv [3, 2, 1, 0] rfl ?_
    exact ja E_37 (tmS T w) ((w).length) (by rw [hbe0]; exact hE_38) (by first | (rw [hbe0]; done) | (rw [hbe0]; exact hbb.1)) (by first | (rw [hbe0]; done) | (rw [hbe0]; exact hbb.2.2.2.2.1))
  · skip
    have hne : Ls ≠ [] := fun z => by rw [z] at c_36; exact absurd c_36 (by decide)
    have hbb := hb.2.2.2 hne
    refine xiload_n h0 2 dX6_one_22 rfl rfl ?_
    refine xaload_n h0 3 dX6_one_23 rfl rfl ?_
    refine xget (C := RX6) (T := TX6) (N := 52) (ci := 6) (v := .int (nI (n 0))) h0 hiX6 0 rfl rfl 39 (by decide) (List.mem_of_getElem? (i := 2) rfl) rfl dX6_one_24 ?_
    refine xncmp_ge (tgt := 51) h0 dX6_one_27 (by decide) (by first | omega | (have := hbb.1; omega)) (by first | omega | (have := hbb.1; omega)) (fun c_40 => ?_) (fun c_40 => ?_)
    · skip
      have hbe0 : bestS T 0 (Ls ++ [w]) = bestS T 0 Ls := bestS_n (fun z => z.elim (fun y => hne ((bestS_0 hL).mp y)) (fun y => by have := hbb.1; have := bt0.mp y; omega))
      refine xlv [3, 2, 1, 0] rfl ?_
      exact ja (AA 0) (n 0) (n 4) (by rw [hbe0]; exact hb.1) (by first | (rw [hbe0]; done) | (rw [hbe0]; exact hbb.1)) (by first | (rw [hbe0]; done) | (rw [hbe0]; exact hbb.2.2.2.2.1))
    · skip
      have hbe0 : bestS T 0 (Ls ++ [w]) = w := bestS_y (Or.inr (bt0.mpr (by have := hbb.1; omega)))
      refine xaload_n h0 3 dX6_one_30 rfl rfl ?_
      refine xiload_n h0 2 dX6_one_31 rfl rfl ?_
      refine xput (ws' := (wM cI cC md T k tm dy P pk ptm pdy hpi tg tl R sg sl (upN (upN (upN (upN (upN (upN (upN (upN (upN (upN (upN (upN u0.1 32 ((w).length)) 33 ((Ls).length)) 34 (onS (Ls))) 36 ((fwS T xo (Ls)).length)) 37 (onS (fwS T xo (Ls)))) 38 (n 4)) 39 (tmS T w)) 41 (n 5)) 42 (n 1)) 43 (n 2)) 45 (n 6)) 46 (n 3), upA (upA (upA (upA u0.2.1 31 G) 40 (AA 0)) 44 (AA 1)) 47 (AA 2), xo))) (C := RX6) (T := TX6) (N := 52) (ci := 6) (ty := tyX6 39) h0 hiX6 tyX6 tyX6_ok nmX6 0 rfl rfl 39 (by decide) (List.mem_of_getElem? (i := 2) rfl) rfl (by decide +kernel) (rfl) (rfl) (Nat.le_of_ble_eq_true rfl) dX6_one_32 rfl ?_
      refine xaload_n h0 3 dX6_one_35 rfl rfl ?_
      refine xaload_n h0 3 dX6_one_36 rfl rfl ?_
      refine xget (C := RX6) (T := TX6) (N := 52) (ci := 6) (v := .int (nI ((w).length))) h0 hiX6 0 rfl rfl 32 (by decide) (List.mem_of_getElem? (i := 3) rfl) rfl dX6_one_37 ?_
      refine xput (ws' := (wM cI cC md T k tm dy P pk ptm pdy hpi tg tl R sg sl (upN (upN (upN (upN (upN (upN (upN (upN (upN (upN (upN (upN u0.1 32 ((w).length)) 33 ((Ls).length)) 34 (onS (Ls))) 36 ((fwS T xo (Ls)).length)) 37 (onS (fwS T xo (Ls)))) 38 ((w).length)) 39 (tmS T w)) 41 (n 5)) 42 (n 1)) 43 (n 2)) 45 (n 6)) 46 (n 3), upA (upA (upA (upA u0.2.1 31 G) 40 (AA 0)) 44 (AA 1)) 47 (AA 2), xo))) (C := RX6) (T := TX6) (N := 52) (ci := 6) (ty := tyX6 38) h0 hiX6 tyX6 tyX6_ok nmX6 0 rfl rfl 38 (by decide) (List.mem_of_getElem? (i := 4) rfl) rfl (by decide +kernel) (rfl) (rfl) (Nat.le_of_ble_eq_true rfl) dX6_one_40 rfl ?_
      refine xaload_n h0 3 dX6_one_43 rfl rfl ?_
      refine xaload_n h0 3 dX6_one_44 rfl rfl ?_
      refine xget (C := RX6) (T := TX6) (N := 52) (ci := 6) (v := .ref (md 40)) h0 hiX6 0 rfl rfl 40 (by decide) (List.mem_of_getElem? (i := 5) rfl) rfl dX6_one_45 ?_
      refine xcallV_v (nn := 1) (w2 := fun E_41 => (wM cI cC md T k tm dy P pk ptm pdy hpi tg tl R sg sl (upN (upN (upN (upN (upN (upN (upN (upN (upN (upN (upN (upN u0.1 32 ((w).length)) 33 ((Ls).length)) 34 (onS (Ls))) 36 ((fwS T xo (Ls)).length)) 37 (onS (fwS T xo (Ls)))) 38 ((w).length)) 39 (tmS T w)) 41 (n 5)) 42 (n 1)) 43 (n 2)) 45 (n 6)) 46 (n 3), upA (upA (upA (upA u0.2.1 31 G) 40 E_41) 44 (AA 1)) 47 (AA 2), xo))) (wr := []) (rest := []) h0 (c_X6_take_40 (xL κ) D cI cC md T k tm dy P pk ptm pdy hpi tg tl R sg sl (upN (upN (upN (upN (upN (upN (upN (upN (upN (upN (upN (upN u0.1 32 ((w).length)) 33 ((Ls).length)) 34 (onS (Ls))) 36 ((fwS T xo (Ls)).length)) 37 (onS (fwS T xo (Ls)))) 38 ((w).length)) 39 (tmS T w)) 41 (n 5)) 42 (n 1)) 43 (n 2)) 45 (n 6)) 46 (n 3), upA (upA (upA (upA u0.2.1 31 G) 40 (AA 0)) 44 (AA 1)) 47 (AA 2), xo) w G hT hG (by assumption) (by assumption) (by assumption)) gX6_one_X6_take (by decide +kernel) rfl rfl rfl ⟨Nat.le_of_ble_eq_true rfl, Nat.le_of_ble_eq_true rfl⟩ ⟨by decide, by decide⟩ (fun _ _ _ _ h => h) (fun _ _ _ _ _ _ _ => trivial) rfl (Nat.le_of_ble_eq_true rfl) (q0 := 0) rfl rfl rfl [0, 1, 2, 3, 4, 5, 6, 7, 8, 9, 10, 11, 12, 13, 14, 15, 16, 17, 18, 19, 20, 21] [] [0, 1, 2, 3, 4, 5, 6, 7, 8, 9, 10, 11, 12, 13, 14, 15, 16, 17, 18, 19, 20, 21] ⟨rfl, rfl, rfl, rfl, rfl⟩ (fun _ => ⟨rfl, rfl⟩) dX6_one_48 (fun E_41 hE_42 => ?_)
      refine xlv [3, 2, 1, 0] rfl ?_
      exact ja E_41 (tmS T w) ((w).length) (by rw [hbe0]; exact hE_42) (by first | (rw [hbe0]; done) | (rw [hbe0]; exact hbb.1)) (by first | (rw [hbe0]; done) | (rw [hbe0]; exact hbb.2.2.2.2.1))
