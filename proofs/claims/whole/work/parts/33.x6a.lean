/-! THE REFERENCE: its world -/
def upA (A : Nat → Nat → Nat) (j : Nat) (G : Nat → Nat) : Nat → Nat → Nat := fun a => bif Nat.beq a j then G else A a
def sortsN : Nat → Nat := fun i => [112, 97, 98, 108].getD i 0
def askersN : Nat → Nat := fun i => [110, 119, 115, 108, 102].getD i 0
def sayersN : Nat → Nat := fun i => [98, 111, 109, 120, 100].getD i 0
abbrev ScmT : Type := (Nat → Nat) × (Nat → Nat → Nat) × Option Nat
abbrev wM (cI cC : ClassId) (md : Nat → Nat) (T : TT) (k tm dy : Nat) (P : TT) (pk ptm pdy hpi : Nat) (tg : Nat → Nat) (tl : Nat) (R : Nat → Nat) (sg : Nat → Nat) (sl : Nat) (u : ScmT) : va_W := [(md 1, .inr (6, [.ref (md 0), .int (nI (T 5 0)), .int (nI (T 5 1)), .int (nI k), .int (nI tm), .int (nI dy), .ref (md 6), .ref (md 7), .ref (md 8), .ref (md 9), .ref (md 10), .int (nI hpi), .int (nI (P 5 0)), .int (nI (P 5 1)), .int (nI pk), .int (nI ptm), .int (nI pdy), .ref (md 17), .ref (md 18), .ref (md 19), .ref (md 20), .ref (md 21), .ref (md 22), .int (nI sl), .int (nI (u.1 24)), .int (nI (u.1 25)), .ref (md 26), .ref (md 27), .ref (md 28), .int (nI (u.1 29)), .ref (md 30), .ref (md 31), .int (nI (u.1 32)), .int (nI (u.1 33)), .int (nI (u.1 34)), .int (oI u.2.2), .int (nI (u.1 36)), .int (nI (u.1 37)), .int (nI (u.1 38)), .int (nI (u.1 39)), .ref (md 40), .int (nI (u.1 41)), .int (nI (u.1 42)), .int (nI (u.1 43)), .ref (md 44), .int (nI (u.1 45)), .int (nI (u.1 46)), .ref (md 47), .int (nI (u.1 48)), .int (nI (u.1 49)), .ref (md 50), .int (nI tl)])), (md 0, .inl (cI, 7, .inl (fun i_ => nI (R i_)))), (md 6, .inl (cI, 8, .inl (fun i_ => nI (T 0 i_)))), (md 7, .inl (cI, 8, .inl (fun i_ => nI (T 1 i_)))), (md 8, .inl (cI, 8, .inl (fun i_ => nI (T 2 i_)))), (md 9, .inl (cI, 8, .inl (fun i_ => nI (T 3 i_)))), (md 10, .inl (cI, 64, .inl (fun i_ => nI (T 4 i_)))), (md 17, .inl (cI, 8, .inl (fun i_ => nI (P 0 i_)))), (md 18, .inl (cI, 8, .inl (fun i_ => nI (P 1 i_)))), (md 19, .inl (cI, 8, .inl (fun i_ => nI (P 2 i_)))), (md 20, .inl (cI, 8, .inl (fun i_ => nI (P 3 i_)))), (md 21, .inl (cI, 64, .inl (fun i_ => nI (P 4 i_)))), (md 22, .inl (cI, 64, .inl (fun i_ => nI (sg i_)))), (md 26, .inl (cC, 4, .inl (fun i_ => nI (sortsN i_)))), (md 27, .inl (cC, 5, .inl (fun i_ => nI (askersN i_)))), (md 28, .inl (cC, 5, .inl (fun i_ => nI (sayersN i_)))), (md 30, .inl (cI, 4, .inl (fun i_ => nI ((u.2.1 30) i_)))), (md 31, .inl (cI, 8, .inl (fun i_ => nI ((u.2.1 31) i_)))), (md 40, .inl (cI, 8, .inl (fun i_ => nI ((u.2.1 40) i_)))), (md 44, .inl (cI, 8, .inl (fun i_ => nI ((u.2.1 44) i_)))), (md 47, .inl (cI, 8, .inl (fun i_ => nI ((u.2.1 47) i_)))), (md 50, .inl (cI, 8, .inl (fun i_ => nI (tg i_))))]
theorem tb_and (S p : Nat) : S / 2 ^ p &&& 1 = if S.testBit p = true then 1 else 0 := by
  rw [Nat.and_one_is_mod, Nat.testBit_eq_decide_div_mod_eq]
  have := Nat.mod_lt (S / 2 ^ p) (show 0 < 2 by decide)
  by_cases h : S / 2 ^ p % 2 = 1
  · rw [h]; rfl
  · have h0 : S / 2 ^ p % 2 = 0 := by omega
    rw [h0]; rfl
def bN (P : Prop) [Decidable P] : Nat := if P then 1 else 0
theorem bN_t {P : Prop} [Decidable P] (h : P) : bN P = 1 := if_pos h
theorem bN_f {P : Prop} [Decidable P] (h : ¬ P) : bN P = 0 := if_neg h
theorem bN_le (P : Prop) [Decidable P] : bN P ≤ 1 := by unfold bN; split <;> omega
theorem bN_pos {P : Prop} [Decidable P] (h : 0 < bN P) : P := Decidable.of_not_not (fun z => by rw [bN_f z] at h; omega)
theorem bN_z {P : Prop} [Decidable P] (h : bN P = 0) : ¬ P := fun z => by rw [bN_t z] at h; omega
/-- the mute one: nobody, or somebody -/
def mxI (mx : Int32) (mu : Nat) : Prop := ∀ p, p < 8 → (nI p = mx ↔ p = mu)
theorem mx_8 : mxI (-1) 8 := by unfold mxI; decide
theorem mx_q {q : Nat} (h : q < 8) : mxI (nI q) q := fun p hp => nI_eq (by omega) (by omega)
theorem mk_s (P : Nat → Bool) (k : Nat) : mkN P (k + 1) = mkN P k ||| (bif P k then 2 ^ k else 0) := rfl
theorem take_s {w : List Nat} {i : Nat} (h : i < w.length) : w.take (i + 1) = w.take i ++ [w.getD i 0] := by
  rw [List.take_succ, List.getD_eq_getElem?_getD, List.getElem?_eq_getElem h]; rfl
theorem cd_div (S i : Nat) : cdK S (i + 1) = cdK S i + (S / 2 ^ i &&& 1) := by rw [Nat.and_one_is_mod]; rfl
theorem bN_bI (P : Prop) [Decidable P] : nI (bN P) = bI P := by unfold bN bI; split <;> rfl
theorem bN_nar (P : Prop) [Decidable P] : narrow .boolean (.int (nI (bN P))) = .int (nI (bN P)) := by rw [bN_bI]; exact bI_nar P
theorem hk_1 {T : TT} {S p i : Nat} (h : hkS T S p i = true) : hkS T S p (i + 1) = true := by unfold hkS; rw [h]; rfl
theorem hk_2 {T : TT} {S p i : Nat} (h1 : S.testBit i = true) (h2 : 0 < T 3 p) (h3 : T 3 i = T 3 p) : hkS T S p (i + 1) = true := by unfold hkS; rw [h1, decide_eq_true h2, beqT h3]; simp
theorem hk_3 {T : TT} {S p i : Nat} (h : ¬ hkS T S p i = true) (h2 : ¬ S.testBit i = true ∨ T 3 p = 0 ∨ T 3 i ≠ T 3 p) : ¬ hkS T S p (i + 1) = true := by
  unfold hkS
  intro z
  rw [Bool.or_eq_true, Bool.and_eq_true, Bool.and_eq_true, decide_eq_true_eq, Nat.beq_eq] at z
  rcases z with z | ⟨z1, z2, z3⟩
  · exact h z
  · rcases h2 with y | y | y
    · exact y z1
    · omega
    · exact y z3
theorem mayB_iff (T : TT) (h G q : Nat) : mayB T h G q = true ↔ ((0 < T 4 (8 * h + q) ∧ ¬ G.testBit q = true) ∧ (T 5 1 = 1 ∨ T 5 1 = 4 → ¬ hkS T G q (T 5 0) = true)) ∧ (T 5 1 = 4 → 0 < T 4 (8 * q + h)) := by
  unfold mayB
  simp only [Bool.and_eq_true, decide_eq_true_eq, Bool.not_eq_true', Bool.or_eq_true, Nat.beq_eq, Bool.or_eq_false_iff]
  constructor
  · rintro ⟨h1, h2, h3, h4⟩
    refine ⟨⟨⟨h1, by rw [h2]; decide⟩, fun z => ?_⟩, fun z => ?_⟩
    · rcases h3 with ⟨y1, y2⟩ | y
      · rcases z with z | z
        · rw [z] at y1; cases y1
        · rw [z] at y2; cases y2
      · rw [y]; decide
    · rcases h4 with y | y
      · rw [z] at y; cases y
      · exact y
  · rintro ⟨⟨⟨h1, h2⟩, h3⟩, h4⟩
    refine ⟨h1, Bool.eq_false_iff.mpr h2, ?_, ?_⟩
    · by_cases z : T 5 1 = 1 ∨ T 5 1 = 4
      · exact Or.inr (Bool.eq_false_iff.mpr (h3 z))
      · exact Or.inl ⟨beqF (fun y => z (Or.inl y)), beqF (fun y => z (Or.inr y))⟩
    · by_cases z : T 5 1 = 4
      · exact Or.inr (h4 z)
      · exact Or.inl (beqF z)

set_option maxHeartbeats 4000000 in
set_option maxRecDepth 100000 in
theorem c_X6_no (l : Launch) (D : va_G) (cI cC : ClassId) (md : Nat → Nat) (T : TT) (k tm dy : Nat) (P : TT) (pk ptm pdy hpi : Nat) (tg : Nat → Nat) (tl : Nat) (R : Nat → Nat) (sg : Nat → Nat) (sl : Nat) (u0 : ScmT) (j : Nat) (hj : j < 7) : XMi l yX6_no wsX6_no ({ frames := 0, cells := 0, slots := 0, locals := 0 } : Room) D (xT cI cC) xE0 (wM cI cC md T k tm dy P pk ptm pdy hpi tg tl R sg sl u0) [.ref (md 1), .int (-(nI j))] (S := Unit) (fun r _ => r = -(nI j)) (fun _ => wM cI cC md T k tm dy P pk ptm pdy hpi tg tl (upN R j (R j + 1)) sg sl u0) 0 0 := by
  refine xMet_i (cc := cX6_no) (nL := 2) (ret := some .int) (by decide +kernel) rfl (Nat.le_of_ble_eq_true rfl) (fun κ A h0 hn0 hE => ?_)
  have hiX6 : ∀ w ∈ u_ws RX6 TX6 52, w ∈ wsX6_no := by decide +kernel
  refine xlv (lv' := [(0, .ref (md 1)), (1, .int (-(nI j)))]) [0, 1] rfl ?_
  refine xaload_n h0 0 dX6_no_0 rfl rfl ?_
  refine xget (C := RX6) (T := TX6) (N := 52) (ci := 6) (v := .ref (md 0)) h0 hiX6 0 rfl rfl 0 (by decide) (List.mem_of_getElem? (i := 1) rfl) rfl dX6_no_1 ?_
  refine xiload_n h0 1 dX6_no_4 rfl rfl ?_
  refine xineg (v := (nI j)) h0 dX6_no_5 (neg_neg _) ?_
  refine xdup2 h0 dX6_no_6 rfl rfl ?_
  refine xiald (v := (nI (R j))) h0 1 0 rfl rfl (by omega) (by decide) dX6_no_7 (rfl) ?_
  refine xiconst (v := (nI 1)) h0 dX6_no_8 (by decide) ?_
  refine xiadd (v := (nI ((R j) + 1))) h0 dX6_no_9 (nI_add _ _) ?_
  refine xiastN (ws' := (wM cI cC md T k tm dy P pk ptm pdy hpi tg tl (upN R j ((R j) + 1)) sg sl u0)) h0 1 0 rfl rfl (by omega) (by decide) dX6_no_10 rfl ?_
  refine xiload_n h0 1 dX6_no_11 rfl rfl ?_
  exact xiret h0 dX6_no_12 () (by rfl) rfl
set_option maxHeartbeats 4000000 in
set_option maxRecDepth 100000 in
theorem c_X6_isNobody (l : Launch) (D : va_G) (cI cC : ClassId) (md : Nat → Nat) (T : TT) (k tm dy : Nat) (P : TT) (pk ptm pdy hpi : Nat) (tg : Nat → Nat) (tl : Nat) (R : Nat → Nat) (sg : Nat → Nat) (sl : Nat) (u0 : ScmT) (x : Int32) (hn : T 5 0 ≤ 8) : XMi l yX6_isNobody wsX6_isNobody ({ frames := 0, cells := 0, slots := 0, locals := 0 } : Room) D (xT cI cC) xE0 (wM cI cC md T k tm dy P pk ptm pdy hpi tg tl R sg sl u0) [.ref (md 1), .int x] (S := Unit) (fun r _ => r = bI (¬ okN (T 5 0) x)) (fun _ => (wM cI cC md T k tm dy P pk ptm pdy hpi tg tl R sg sl u0)) 0 0 := by
  refine xMet_i (cc := cX6_isNobody) (nL := 2) (ret := some .boolean) (by decide +kernel) rfl (Nat.le_of_ble_eq_true rfl) (fun κ A h0 hn0 hE => ?_)
  have hiX6 : ∀ w ∈ u_ws RX6 TX6 52, w ∈ wsX6_isNobody := by decide +kernel
  refine xlv (lv' := [(0, .ref (md 1)), (1, .int x)]) [0, 1] rfl ?_
  refine xiload_n h0 1 dX6_isNobody_0 rfl rfl ?_
  refine xif_lt (tgt := 12) h0 dX6_isNobody_1 (by decide)  (fun c_1 => ?_) (fun c_1 => ?_)
  · skip
    refine xiconst (v := (nI 1)) h0 dX6_isNobody_12 (by decide) ?_
    refine xgoto (tgt := 17) h0 dX6_isNobody_13 (by decide) ?_
    exact xzret h0 dX6_isNobody_17 nar_n1 () (by exact (by first | exact (bI_t (show ¬ okN (T 5 0) x from fun z => z.1 (by assumption))).symm | exact (bI_t (show ¬ okN (T 5 0) x from fun z => absurd z.2 (by assumption))).symm | exact (bI_f (not_not_intro ⟨by assumption, by assumption⟩)).symm)) rfl
  · skip
    refine xiload_n h0 1 dX6_isNobody_4 rfl rfl ?_
    refine xaload_n h0 0 dX6_isNobody_5 rfl rfl ?_
    refine xget (C := RX6) (T := TX6) (N := 52) (ci := 6) (v := .int (nI (T 5 0))) h0 hiX6 0 rfl rfl 1 (by decide) (List.mem_of_getElem? (i := 1) rfl) rfl dX6_isNobody_6 ?_
    refine xicmp_lt (tgt := 16) h0 dX6_isNobody_9 (by decide)  (fun c_2 => ?_) (fun c_2 => ?_)
    · skip
      refine xiconst (v := (nI 0)) h0 dX6_isNobody_16 (by decide) ?_
      exact xzret h0 dX6_isNobody_17 nar_n0 () (by exact (by first | exact (bI_t (show ¬ okN (T 5 0) x from fun z => z.1 (by assumption))).symm | exact (bI_t (show ¬ okN (T 5 0) x from fun z => absurd z.2 (by assumption))).symm | exact (bI_f (not_not_intro ⟨by assumption, by assumption⟩)).symm)) rfl
    · skip
      refine xiconst (v := (nI 1)) h0 dX6_isNobody_12 (by decide) ?_
      refine xgoto (tgt := 17) h0 dX6_isNobody_13 (by decide) ?_
      exact xzret h0 dX6_isNobody_17 nar_n1 () (by exact (by first | exact (bI_t (show ¬ okN (T 5 0) x from fun z => z.1 (by assumption))).symm | exact (bI_t (show ¬ okN (T 5 0) x from fun z => absurd z.2 (by assumption))).symm | exact (bI_f (not_not_intro ⟨by assumption, by assumption⟩)).symm)) rfl
set_option maxHeartbeats 4000000 in
set_option maxRecDepth 100000 in
theorem c_X6_isIn (l : Launch) (D : va_G) (cI cC : ClassId) (S p : Nat) (hp : p < 31) (hS : S < 2 ^ 31) : XMi l yX6_isIn wsX6_isIn ({ frames := 0, cells := 0, slots := 0, locals := 0 } : Room) D (xT cI cC) xE0 [] [.int (nI S), .int (nI p)] (S := Unit) (fun r _ => r = bI (S.testBit p = true)) (fun _ => []) 0 0 := by
  refine xMet_i (cc := cX6_isIn) (nL := 2) (ret := some .boolean) (by decide +kernel) rfl (Nat.le_of_ble_eq_true rfl) (fun κ A h0 hn0 hE => ?_)
  refine xlv (lv' := [(0, .int (nI S)), (1, .int (nI p))]) [0, 1] rfl ?_
  refine xiload_n h0 0 dX6_isIn_0 rfl rfl ?_
  refine xiload_n h0 1 dX6_isIn_1 rfl rfl ?_
  refine xishr (v := (nI (S / 2 ^ p))) h0 dX6_isIn_2 (nI_shr p hp S hS) ?_
  refine xiconst (v := (nI 1)) h0 dX6_isIn_3 (by decide) ?_
  refine xiand (v := (nI ((S / 2 ^ p) &&& 1))) h0 dX6_isIn_4 (nx_and _ _) ?_
  refine xiconst (v := (nI 1)) h0 dX6_isIn_5 (by decide) ?_
  refine xncmp_ne (tgt := 13) h0 dX6_isIn_6 (by decide) (by first | exact Nat.lt_of_le_of_lt Nat.and_le_right (by decide) | decide) (by first | exact Nat.lt_of_le_of_lt Nat.and_le_right (by decide) | decide) (fun c_1 => ?_) (fun c_1 => ?_)
  · skip
    refine xiconst (v := (nI 0)) h0 dX6_isIn_13 (by decide) ?_
    exact xzret h0 dX6_isIn_14 nar_n0 () (by exact (bI_f (by have hq := tb_and S p; first | (intro z; rw [if_pos z] at hq; exact absurd hq (by assumption)) | exact Decidable.of_not_not (fun z => by rw [if_neg z] at hq; omega))).symm) rfl
  · skip
    refine xiconst (v := (nI 1)) h0 dX6_isIn_9 (by decide) ?_
    refine xgoto (tgt := 14) h0 dX6_isIn_10 (by decide) ?_
    exact xzret h0 dX6_isIn_14 nar_n1 () (by exact (bI_t (by have hq := tb_and S p; first | (intro z; rw [if_pos z] at hq; exact absurd hq (by assumption)) | exact Decidable.of_not_not (fun z => by rw [if_neg z] at hq; omega))).symm) rfl
set_option maxHeartbeats 4000000 in
set_option maxRecDepth 100000 in
theorem c_X6_size (l : Launch) (D : va_G) (cI cC : ClassId) (S : Nat) (hS : S < 2 ^ 31) : XMi l yX6_size wsX6_size ({ frames := 0, cells := 0, slots := 0, locals := 0 } : Room) D (xT cI cC) xE0 [] [.int (nI S)] (S := Unit) (fun r _ => r = nI (cdS S)) (fun _ => []) 0 0 := by
  refine xMet_i (cc := cX6_size) (nL := 3) (ret := some .int) (by decide +kernel) rfl (Nat.le_of_ble_eq_true rfl) (fun κ A h0 hn0 hE => ?_)
  refine xlv (lv' := [(0, .int (nI S))]) [0] rfl ?_
  refine xiconst (v := (nI 0)) h0 dX6_size_0 (by decide) ?_
  refine xistore_n (lv' := [(1, .int (nI 0)), (0, .int (nI S))]) h0 dX6_size_1 rfl (by decide) rfl ?_
  refine xiconst (v := (nI 0)) h0 dX6_size_2 (by decide) ?_
  refine xistore_n (lv' := [(2, .int (nI 0)), (1, .int (nI 0)), (0, .int (nI S))]) h0 dX6_size_3 rfl (by decide) rfl ?_
  have lp : ∀ (d_ : Nat) (i v : Nat), (9 - i ≤ d_) → (i ≤ 8) → (v = cdK S i) → XG κ 3 D (xT cI cC) A (xQi (S := Unit) κ D (xT cI cC) A (fun r _ => r = nI (cdS S)) (fun _ => []) 0 0) [] 0 0 4 [(0, .int (nI S)), (1, .int (nI v)), (2, .int (nI i))] [] := by
    intro d_
    induction d_ with
    | zero => intro i v hm_ hi hv; exact absurd hm_ (by omega)
    | succ d_ ih_lp =>
      intro i v hm_ hi hv
      refine xiload_n h0 2 dX6_size_4 rfl rfl ?_
      refine xbipush (v := (nI 8)) h0 dX6_size_5 (by decide) ?_
      refine xncmp_ge (tgt := 24) h0 dX6_size_7 (by decide) (by omega) (by omega) (fun c_1 => ?_) (fun c_1 => ?_)
      · skip
        refine xiload_n h0 1 dX6_size_24 rfl rfl ?_
        exact xiret h0 dX6_size_25 () (by rw [hv, show i = 8 by omega]; rfl) rfl
      · skip
        refine xiload_n h0 1 dX6_size_10 rfl rfl ?_
        refine xiload_n h0 0 dX6_size_11 rfl rfl ?_
        refine xiload_n h0 2 dX6_size_12 rfl rfl ?_
        refine xishr (v := (nI (S / 2 ^ i))) h0 dX6_size_13 (nI_shr i (by omega) S hS) ?_
        refine xiconst (v := (nI 1)) h0 dX6_size_14 (by decide) ?_
        refine xiand (v := (nI ((S / 2 ^ i) &&& 1))) h0 dX6_size_15 (nx_and _ _) ?_
        refine xiadd (v := (nI (v + ((S / 2 ^ i) &&& 1)))) h0 dX6_size_16 (nI_add _ _) ?_
        refine xistore_n (lv' := [(1, .int (nI (v + ((S / 2 ^ i) &&& 1)))), (0, .int (nI S)), (2, .int (nI i))]) h0 dX6_size_17 rfl (by decide) rfl ?_
        refine xiinc (v := (nI (i + 1))) (lv' := [(2, .int (nI (i + 1))), (1, .int (nI (v + ((S / 2 ^ i) &&& 1)))), (0, .int (nI S))]) h0 2 dX6_size_18 rfl (nI_add _ _) (by decide) rfl ?_
        refine xgoto (tgt := 4) h0 dX6_size_21 (by decide) ?_
        refine xlv [2, 1, 0] rfl ?_
        exact ih_lp (i + 1) (v + ((S / 2 ^ i) &&& 1)) (by omega) (by omega) (by rw [cd_div, hv])
  refine xlv [2, 1, 0] rfl ?_
  exact lp (9) 0 0 (by omega) (by omega) (by rfl)
set_option maxHeartbeats 4000000 in
set_option maxRecDepth 100000 in
theorem c_X6_hasKin (l : Launch) (D : va_G) (cI cC : ClassId) (md : Nat → Nat) (T : TT) (k tm dy : Nat) (P : TT) (pk ptm pdy hpi : Nat) (tg : Nat → Nat) (tl : Nat) (R : Nat → Nat) (sg : Nat → Nat) (sl : Nat) (u0 : ScmT) (S p : Nat) (hT : TOK T) (hp : p < 8) (hS : S < 2 ^ 31) : XMi l yX6_hasKin wsX6_hasKin ({ frames := 1, cells := 0, slots := 0, locals := 21 } : Room) D (xT cI cC) xE0 (wM cI cC md T k tm dy P pk ptm pdy hpi tg tl R sg sl u0) [.ref (md 1), .int (nI S), .int (nI p)] (S := Unit) (fun r _ => r = bI (hkS T S p (T 5 0) = true)) (fun _ => (wM cI cC md T k tm dy P pk ptm pdy hpi tg tl R sg sl u0)) 0 0 := by
  refine xMet_i (cc := cX6_hasKin) (nL := 5) (ret := some .boolean) (by decide +kernel) rfl (Nat.le_of_ble_eq_true rfl) (fun κ A h0 hn0 hE => ?_)
  have hiX6 : ∀ w ∈ u_ws RX6 TX6 52, w ∈ wsX6_hasKin := by decide +kernel
  refine xlv (lv' := [(0, .ref (md 1)), (1, .int (nI S)), (2, .int (nI p))]) [0, 1, 2] rfl ?_
  have hn := hT.1
  have h3 := hT.2.2.2.2.2.1
  refine xiconst (v := (nI 0)) h0 dX6_hasKin_0 (by decide) ?_
  refine xistore_n (lv' := [(3, .int (nI 0)), (0, .ref (md 1)), (1, .int (nI S)), (2, .int (nI p))]) h0 dX6_hasKin_1 rfl (by decide) rfl ?_
  refine xiconst (v := (nI 0)) h0 dX6_hasKin_2 (by decide) ?_
  refine xistore (lv' := [(4, .int (nI 0)), (3, .int (nI 0)), (0, .ref (md 1)), (1, .int (nI S)), (2, .int (nI p))]) h0 dX6_hasKin_3 (by decide) rfl ?_
  have lp : ∀ (d_ : Nat) (i b : Nat), (9 - i ≤ d_) → (i ≤ T 5 0) → (b = bN (hkS T S p i = true)) → XG κ 5 D (xT cI cC) A (xQi (S := Unit) κ D (xT cI cC) A (fun r _ => r = bI (hkS T S p (T 5 0) = true)) (fun _ => (wM cI cC md T k tm dy P pk ptm pdy hpi tg tl R sg sl u0)) 0 0) (wM cI cC md T k tm dy P pk ptm pdy hpi tg tl R sg sl u0) 0 0 5 [(0, .ref (md 1)), (1, .int (nI S)), (2, .int (nI p)), (3, .int (nI b)), (4, .int (nI i))] [] := by
    intro d_
    induction d_ with
    | zero => intro i b hm_ hi hb; exact absurd hm_ (by omega)
    | succ d_ ih_lp =>
      intro i b hm_ hi hb
      have hb1 := bN_le (hkS T S p i = true)
      refine xiload h0 4 dX6_hasKin_5 rfl ?_
      refine xaload_n h0 0 dX6_hasKin_7 rfl rfl ?_
      refine xget (C := RX6) (T := TX6) (N := 52) (ci := 6) (v := .int (nI (T 5 0))) h0 hiX6 0 rfl rfl 1 (by decide) (List.mem_of_getElem? (i := 1) rfl) rfl dX6_hasKin_8 ?_
      refine xncmp_ge (tgt := 64) h0 dX6_hasKin_11 (by decide) (by omega) (by omega) (fun c_1 => ?_) (fun c_1 => ?_)
      · skip
        refine xiload_n h0 3 dX6_hasKin_64 rfl rfl ?_
        exact xzret h0 dX6_hasKin_65 (by rw [hb]; exact bN_nar _) () (by exact (by rw [hb, show i = T 5 0 by omega]; exact bN_bI _)) rfl
      · skip
        have jn : ∀ (b2 : Nat), (b2 = bN (hkS T S p (i + 1) = true)) → XG κ 5 D (xT cI cC) A (xQi (S := Unit) κ D (xT cI cC) A (fun r _ => r = bI (hkS T S p (T 5 0) = true)) (fun _ => (wM cI cC md T k tm dy P pk ptm pdy hpi tg tl R sg sl u0)) 0 0) (wM cI cC md T k tm dy P pk ptm pdy hpi tg tl R sg sl u0) 0 0 57 [(0, .ref (md 1)), (1, .int (nI S)), (2, .int (nI p)), (4, .int (nI i))] [.int (nI b2)] := by
          intro b2 hb2
          refine xistore_n (lv' := [(3, .int (nI b2)), (0, .ref (md 1)), (1, .int (nI S)), (2, .int (nI p)), (4, .int (nI i))]) h0 dX6_hasKin_57 rfl (by decide) rfl ?_
          refine xiinc (v := (nI (i + 1))) (lv' := [(4, .int (nI (i + 1))), (3, .int (nI b2)), (0, .ref (md 1)), (1, .int (nI S)), (2, .int (nI p))]) h0 4 dX6_hasKin_58 rfl (nI_add _ _) (by decide) rfl ?_
          refine xgoto (tgt := 5) h0 dX6_hasKin_61 (by decide) ?_
          refine xlv [2, 3, 4, 1, 0] rfl ?_
          exact ih_lp (i + 1) b2 (by omega) (by omega) (by exact hb2)
        refine xiload_n h0 3 dX6_hasKin_14 rfl rfl ?_
        refine xnif_ne (tgt := 52) h0 dX6_hasKin_15 (by decide) (by omega) (fun c_2 => ?_) (fun c_2 => ?_)
        · skip
          refine xiconst (v := (nI 1)) h0 dX6_hasKin_52 (by decide) ?_
          refine xgoto (tgt := 57) h0 dX6_hasKin_53 (by decide) ?_
          refine xlv [0, 1, 2, 4] rfl ?_
          exact jn 1 (by first | exact (bN_t (hk_1 (bN_pos (by rw [← hb]; assumption)))).symm | exact (bN_t (hk_2 (by assumption) (by assumption) (by omega))).symm | exact (bN_f (hk_3 (bN_z (by rw [← hb]; assumption)) (by first | exact Or.inl (by assumption) | exact Or.inr (Or.inl (by assumption)) | exact Or.inr (Or.inr (by omega))))).symm)
        · skip
          refine xiload_n h0 1 dX6_hasKin_18 rfl rfl ?_
          refine xiload h0 4 dX6_hasKin_19 rfl ?_
          refine xcallS_i (nn := 2) (w2 := fun u_ => (wM cI cC md T k tm dy P pk ptm pdy hpi tg tl R sg sl u0)) (wr := [(md 1, .inr (6, [.ref (md 0), .int (nI (T 5 0)), .int (nI (T 5 1)), .int (nI k), .int (nI tm), .int (nI dy), .ref (md 6), .ref (md 7), .ref (md 8), .ref (md 9), .ref (md 10), .int (nI hpi), .int (nI (P 5 0)), .int (nI (P 5 1)), .int (nI pk), .int (nI ptm), .int (nI pdy), .ref (md 17), .ref (md 18), .ref (md 19), .ref (md 20), .ref (md 21), .ref (md 22), .int (nI sl), .int (nI (u0.1 24)), .int (nI (u0.1 25)), .ref (md 26), .ref (md 27), .ref (md 28), .int (nI (u0.1 29)), .ref (md 30), .ref (md 31), .int (nI (u0.1 32)), .int (nI (u0.1 33)), .int (nI (u0.1 34)), .int (oI u0.2.2), .int (nI (u0.1 36)), .int (nI (u0.1 37)), .int (nI (u0.1 38)), .int (nI (u0.1 39)), .ref (md 40), .int (nI (u0.1 41)), .int (nI (u0.1 42)), .int (nI (u0.1 43)), .ref (md 44), .int (nI (u0.1 45)), .int (nI (u0.1 46)), .ref (md 47), .int (nI (u0.1 48)), .int (nI (u0.1 49)), .ref (md 50), .int (nI tl)])), (md 0, .inl (cI, 7, .inl (fun i_ => nI (R i_)))), (md 6, .inl (cI, 8, .inl (fun i_ => nI (T 0 i_)))), (md 7, .inl (cI, 8, .inl (fun i_ => nI (T 1 i_)))), (md 8, .inl (cI, 8, .inl (fun i_ => nI (T 2 i_)))), (md 9, .inl (cI, 8, .inl (fun i_ => nI (T 3 i_)))), (md 10, .inl (cI, 64, .inl (fun i_ => nI (T 4 i_)))), (md 17, .inl (cI, 8, .inl (fun i_ => nI (P 0 i_)))), (md 18, .inl (cI, 8, .inl (fun i_ => nI (P 1 i_)))), (md 19, .inl (cI, 8, .inl (fun i_ => nI (P 2 i_)))), (md 20, .inl (cI, 8, .inl (fun i_ => nI (P 3 i_)))), (md 21, .inl (cI, 64, .inl (fun i_ => nI (P 4 i_)))), (md 22, .inl (cI, 64, .inl (fun i_ => nI (sg i_)))), (md 26, .inl (cC, 4, .inl (fun i_ => nI (sortsN i_)))), (md 27, .inl (cC, 5, .inl (fun i_ => nI (askersN i_)))), (md 28, .inl (cC, 5, .inl (fun i_ => nI (sayersN i_)))), (md 30, .inl (cI, 4, .inl (fun i_ => nI ((u0.2.1 30) i_)))), (md 31, .inl (cI, 8, .inl (fun i_ => nI ((u0.2.1 31) i_)))), (md 40, .inl (cI, 8, .inl (fun i_ => nI ((u0.2.1 40) i_)))), (md 44, .inl (cI, 8, .inl (fun i_ => nI ((u0.2.1 44) i_)))), (md 47, .inl (cI, 8, .inl (fun i_ => nI ((u0.2.1 47) i_)))), (md 50, .inl (cI, 8, .inl (fun i_ => nI (tg i_))))]) (rest := []) h0 (c_X6_isIn (xL κ) D cI cC S i (by omega) (by omega)) gX6_hasKin_X6_isIn (by decide +kernel) rfl rfl rfl ⟨Nat.le_of_ble_eq_true rfl, Nat.le_of_ble_eq_true rfl⟩ ⟨by decide, by decide⟩ (fun _ _ _ _ h => h) (fun _ _ _ _ _ _ _ => trivial) rfl (Nat.le_of_ble_eq_true rfl) rfl [] [0, 1, 2, 3, 4, 5, 6, 7, 8, 9, 10, 11, 12, 13, 14, 15, 16, 17, 18, 19, 20, 21] [0, 1, 2, 3, 4, 5, 6, 7, 8, 9, 10, 11, 12, 13, 14, 15, 16, 17, 18, 19, 20, 21] ⟨rfl, rfl, rfl, rfl, rfl⟩ (fun _ => ⟨rfl, rfl⟩) dX6_hasKin_21 (fun r_4 u_ hr_3 => ?_)
          subst hr_3
          refine xbif_eq (tgt := 56) h0 dX6_hasKin_24 (by decide)  (fun c_5 => ?_) (fun c_5 => ?_)
          · skip
            refine xiconst (v := (nI 0)) h0 dX6_hasKin_56 (by decide) ?_
            refine xlv [0, 1, 2, 4] rfl ?_
            exact jn 0 (by first | exact (bN_t (hk_1 (bN_pos (by rw [← hb]; assumption)))).symm | exact (bN_t (hk_2 (by assumption) (by assumption) (by omega))).symm | exact (bN_f (hk_3 (bN_z (by rw [← hb]; assumption)) (by first | exact Or.inl (by assumption) | exact Or.inr (Or.inl (by assumption)) | exact Or.inr (Or.inr (by omega))))).symm)
          · skip
            refine xaload_n h0 0 dX6_hasKin_27 rfl rfl ?_
            refine xget (C := RX6) (T := TX6) (N := 52) (ci := 6) (v := .ref (md 9)) h0 hiX6 0 rfl rfl 9 (by decide) (List.mem_of_getElem? (i := 2) rfl) rfl dX6_hasKin_28 ?_
            refine xiload_n h0 2 dX6_hasKin_31 rfl rfl ?_
            refine xiald (v := (nI (T 3 p))) h0 5 0 rfl rfl (by omega) (by decide) dX6_hasKin_32 (rfl) ?_
            refine xnif_le (tgt := 56) h0 dX6_hasKin_33 (by decide) (by have := h3 p; omega) (fun c_6 => ?_) (fun c_6 => ?_)
            · skip
              refine xiconst (v := (nI 0)) h0 dX6_hasKin_56 (by decide) ?_
              refine xlv [0, 1, 2, 4] rfl ?_
              exact jn 0 (by first | exact (bN_t (hk_1 (bN_pos (by rw [← hb]; assumption)))).symm | exact (bN_t (hk_2 (by assumption) (by assumption) (by omega))).symm | exact (bN_f (hk_3 (bN_z (by rw [← hb]; assumption)) (by first | exact Or.inl (by assumption) | exact Or.inr (Or.inl (by assumption)) | exact Or.inr (Or.inr (by omega))))).symm)
            · skip
              refine xaload_n h0 0 dX6_hasKin_36 rfl rfl ?_
              refine xget (C := RX6) (T := TX6) (N := 52) (ci := 6) (v := .ref (md 9)) h0 hiX6 0 rfl rfl 9 (by decide) (List.mem_of_getElem? (i := 2) rfl) rfl dX6_hasKin_37 ?_
              refine xiload h0 4 dX6_hasKin_40 rfl ?_
              refine xiald (v := (nI (T 3 i))) h0 5 0 rfl rfl (by omega) (by decide) dX6_hasKin_42 (rfl) ?_
              refine xaload_n h0 0 dX6_hasKin_43 rfl rfl ?_
              refine xget (C := RX6) (T := TX6) (N := 52) (ci := 6) (v := .ref (md 9)) h0 hiX6 0 rfl rfl 9 (by decide) (List.mem_of_getElem? (i := 2) rfl) rfl dX6_hasKin_44 ?_
              refine xiload_n h0 2 dX6_hasKin_47 rfl rfl ?_
              refine xiald (v := (nI (T 3 p))) h0 5 0 rfl rfl (by omega) (by decide) dX6_hasKin_48 (rfl) ?_
              refine xncmp_ne (tgt := 56) h0 dX6_hasKin_49 (by decide) (by first | (have := h3 p; omega) | (have := h3 i; omega)) (by first | (have := h3 p; omega) | (have := h3 i; omega)) (fun c_7 => ?_) (fun c_7 => ?_)
              · skip
                refine xiconst (v := (nI 0)) h0 dX6_hasKin_56 (by decide) ?_
                refine xlv [0, 1, 2, 4] rfl ?_
                exact jn 0 (by first | exact (bN_t (hk_1 (bN_pos (by rw [← hb]; assumption)))).symm | exact (bN_t (hk_2 (by assumption) (by assumption) (by omega))).symm | exact (bN_f (hk_3 (bN_z (by rw [← hb]; assumption)) (by first | exact Or.inl (by assumption) | exact Or.inr (Or.inl (by assumption)) | exact Or.inr (Or.inr (by omega))))).symm)
              · skip
                refine xiconst (v := (nI 1)) h0 dX6_hasKin_52 (by decide) ?_
                refine xgoto (tgt := 57) h0 dX6_hasKin_53 (by decide) ?_
                refine xlv [0, 1, 2, 4] rfl ?_
                exact jn 1 (by first | exact (bN_t (hk_1 (bN_pos (by rw [← hb]; assumption)))).symm | exact (bN_t (hk_2 (by assumption) (by assumption) (by omega))).symm | exact (bN_f (hk_3 (bN_z (by rw [← hb]; assumption)) (by first | exact Or.inl (by assumption) | exact Or.inr (Or.inl (by assumption)) | exact Or.inr (Or.inr (by omega))))).symm)
  refine xlv [2, 3, 4, 1, 0] rfl ?_
  exact lp (9) 0 0 (by omega) (by omega) (by rfl)
