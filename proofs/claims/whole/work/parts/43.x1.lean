/-! THE CLASS Letters: reading -/
theorem numT_b {G : Nat → Nat} {sl m : Nat} {σ : Nat × Nat} : (numT G sl m σ).2 = 0 ∨ (numT G sl m σ).2 = 1 := by
  unfold numT; split
  · exact Or.inr rfl
  · exact Or.inl rfl
theorem b01 {x : Nat} (h : x = 0 ∨ x = 1) : x < 2 ^ 31 := by omega
theorem oI_nn {b : Option Nat} (h : 0 ≤ oI b) : ∃ c, b = some c := by
  cases b with
  | none => exact absurd h (by decide)
  | some c => exact ⟨c, rfl⟩
theorem oI_ng {b : Option Nat} (hb : ∀ c, b = some c → c < 2 ^ 31) (h : ¬ 0 ≤ oI b) : b = none := by
  cases b with
  | none => rfl
  | some c => exact absurd (nI_pos' (hb c rfl)) h
theorem one_31 {G : Nat → Nat} {sl i : Nat} (hi : i < 6) {σ : Nat × Nat} : ∀ z, oneS G sl (strN i) σ = some z → z < 2 ^ 31 := fun z hz => by
  have h1 := oneS_lt hz
  have h2 := str_ps i hi
  omega
theorem numV_lt {G : Nat → Nat} {sl m : Nat} {σ : Nat × Nat} (hm : m ≤ 3) : numV G sl m σ < 1000 := by
  have h := numK_v (G := G) (sl := sl) (σ := σ) m
  have h2 : 10 ^ m ≤ 10 ^ 3 := Nat.pow_le_pow_right (by decide) hm
  unfold numV
  have h3 : (10 : Nat) ^ 3 = 1000 := by decide
  omega
theorem oI_q {o : Option Nat} {q : Nat} (h : o = some q) : oI o = nI (o.getD 0) := by rw [h]; rfl
section RX1
variable {G : Nat → Nat} {sl : Nat} {σ : Nat × Nat}
theorem srS_k {k : Nat} (hk : k < 4) (h : oI (oneS G sl (strN 0) σ) = nI k) : srS G sl σ = k := by
  unfold srS
  cases e : oneS G sl (strN 0) σ with
  | none =>
    rw [e] at h
    have h4 : ∀ k, k < 4 → ¬ (-1 : Int32) = nI k := by decide
    exact absurd h (h4 k hk)
  | some q =>
    rw [e] at h
    have : q < 4 := oneS_lt e
    show q = k
    exact (nI_eq (by omega) (by omega)).mp h
theorem srS_d (h0 : ¬ oI (oneS G sl (strN 0) σ) = nI 0) (h1 : ¬ oI (oneS G sl (strN 0) σ) = nI 1) (h2 : ¬ oI (oneS G sl (strN 0) σ) = nI 2) (h3 : ¬ oI (oneS G sl (strN 0) σ) = nI 3) : oneS G sl (strN 0) σ = none := by
  cases e : oneS G sl (strN 0) σ with
  | none => rfl
  | some q =>
    rw [e] at h0 h1 h2 h3
    have : q < 4 := oneS_lt e
    rcases (show q = 0 ∨ q = 1 ∨ q = 2 ∨ q = 3 by omega) with z | z | z | z
    · subst z; exact absurd rfl h0
    · subst z; exact absurd rfl h1
    · subst z; exact absurd rfl h2
    · subst z; exact absurd rfl h3
def apS (G : Nat → Nat) (sl : Nat) (T : TT) (σ : Nat × Nat) : TT := if (srT G sl σ).2 = 0 ∧ fitD (T 5 0) (srS G sl σ) (srF G sl σ Z0F) then apF T (srS G sl σ) (srF G sl σ Z0F) else T
theorem apS_C (T : TT) (p : Nat) : apS G sl T (p, 0) = apC G sl T p := rfl
theorem srT_p (h : srS G sl σ = 0) : srT G sl σ = perT G sl (oneT G sl (strN 0) σ) := by unfold srT stT; rw [if_pos h]
theorem srT_l (h : srS G sl σ = 3) : srT G sl σ = lawT G sl (oneT G sl (strN 0) σ) := by unfold srT stT; rw [if_neg (by rw [h]; decide), if_pos h]
theorem srT_m (h0 : srS G sl σ ≠ 0) (h3 : srS G sl σ ≠ 3) : srT G sl σ = minT G sl (oneT G sl (strN 0) σ) := by unfold srT stT; rw [if_neg h0, if_neg h3]
theorem srF_p (F : Nat → Nat) (h : srS G sl σ = 0) : srF G sl σ F = upN (upN (upN (upN F 0 (perA G sl (oneT G sl (strN 0) σ))) 1 (perS G sl (oneT G sl (strN 0) σ))) 2 (perK G sl (oneT G sl (strN 0) σ))) 3 (perI G sl (oneT G sl (strN 0) σ)) := by unfold srF stF; rw [if_pos h]
theorem srF_l (F : Nat → Nat) (h : srS G sl σ = 3) : srF G sl σ F = upN F 0 (numV G sl 1 (oneT G sl (strN 0) σ)) := by unfold srF stF; rw [if_neg (by rw [h]; decide), if_pos h]
theorem srF_m (F : Nat → Nat) (h0 : srS G sl σ ≠ 0) (h3 : srS G sl σ ≠ 3) : srF G sl σ F = upN (upN (upN F 0 (minA G sl (oneT G sl (strN 0) σ))) 1 (minB G sl (oneT G sl (strN 0) σ))) 2 (minM G sl (oneT G sl (strN 0) σ)) := by unfold srF stF; rw [if_neg h0, if_neg h3]
theorem fit_p {n : Nat} (h : srS G sl σ = 0) : fitD n (srS G sl σ) (srF G sl σ Z0F) ↔ (n < 8 ∧ perK G sl (oneT G sl (strN 0) σ) ≤ 100) := by
  rw [srF_p _ h]
  constructor
  · rintro (z | z | z)
    · exact ⟨z.2.2, z.2.1⟩
    · exact absurd z.1 (by rw [h]; decide)
    · exact absurd h z.1
  · exact fun z => Or.inl ⟨h, z.2, z.1⟩
theorem fit_l {n : Nat} (h : srS G sl σ = 3) : fitD n (srS G sl σ) (srF G sl σ Z0F) ↔ numV G sl 1 (oneT G sl (strN 0) σ) ≤ 4 := by
  rw [srF_l _ h]
  constructor
  · rintro (z | z | z)
    · exact absurd z.1 (by rw [h]; decide)
    · exact z.2
    · exact absurd h z.2.1
  · exact fun z => Or.inr (Or.inl ⟨h, z⟩)
theorem fit_m {n : Nat} (h0 : srS G sl σ ≠ 0) (h3 : srS G sl σ ≠ 3) : fitD n (srS G sl σ) (srF G sl σ Z0F) ↔ (minA G sl (oneT G sl (strN 0) σ) < n ∧ minB G sl (oneT G sl (strN 0) σ) < n ∧ minA G sl (oneT G sl (strN 0) σ) ≠ minB G sl (oneT G sl (strN 0) σ) ∧ 1 ≤ minM G sl (oneT G sl (strN 0) σ) ∧ minM G sl (oneT G sl (strN 0) σ) ≤ 60) := by
  rw [srF_m _ h0 h3]
  constructor
  · rintro (z | z | z)
    · exact absurd z.1 h0
    · exact absurd z.1 h3
    · exact z.2.2
  · exact fun z => Or.inr (Or.inr ⟨h0, h3, z⟩)
theorem cs_p {n : Nat} (h : srS G sl σ = 0) : ((perT G sl (oneT G sl (strN 0) σ)).2 = 0 ∧ (n < 8 ∧ perK G sl (oneT G sl (strN 0) σ) ≤ 100)) ↔ ((srT G sl σ).2 = 0 ∧ fitD n (srS G sl σ) (srF G sl σ Z0F)) := by rw [srT_p h, fit_p h]
theorem cs_l {n : Nat} (h : srS G sl σ = 3) : ((lawT G sl (oneT G sl (strN 0) σ)).2 = 0 ∧ numV G sl 1 (oneT G sl (strN 0) σ) ≤ 4) ↔ ((srT G sl σ).2 = 0 ∧ fitD n (srS G sl σ) (srF G sl σ Z0F)) := by rw [srT_l h, fit_l h]
theorem cs_m {n : Nat} (h0 : srS G sl σ ≠ 0) (h3 : srS G sl σ ≠ 3) : ((minT G sl (oneT G sl (strN 0) σ)).2 = 0 ∧ (minA G sl (oneT G sl (strN 0) σ) < n ∧ minB G sl (oneT G sl (strN 0) σ) < n ∧ minA G sl (oneT G sl (strN 0) σ) ≠ minB G sl (oneT G sl (strN 0) σ) ∧ 1 ≤ minM G sl (oneT G sl (strN 0) σ) ∧ minM G sl (oneT G sl (strN 0) σ) ≤ 60)) ↔ ((srT G sl σ).2 = 0 ∧ fitD n (srS G sl σ) (srF G sl σ Z0F)) := by rw [srT_m h0 h3, fit_m h0 h3]
theorem cs_d {n : Nat} (h : oneS G sl (strN 0) σ = none) : ¬ ((srT G sl σ).2 = 0 ∧ fitD n (srS G sl σ) (srF G sl σ Z0F)) ∧ srT G sl σ = oneT G sl (strN 0) σ := by
  have h0 : srS G sl σ = 0 := by unfold srS; rw [h]; rfl
  have e : srT G sl σ = oneT G sl (strN 0) σ := by rw [srT_p h0]; exact perT_k (by rw [oneT_n h])
  refine ⟨fun z => ?_, e⟩
  have := z.1
  rw [e, oneT_n h] at this
  exact absurd this Nat.one_ne_zero
theorem ap_p {T : TT} (h : srS G sl σ = 0) : sel (perT G sl (oneT G sl (strN 0) σ)).2 (addT T (perA G sl (oneT G sl (strN 0) σ)) (perS G sl (oneT G sl (strN 0) σ)) (perK G sl (oneT G sl (strN 0) σ)) (perI G sl (oneT G sl (strN 0) σ))) T = apS G sl T σ := by
  by_cases hc : (srT G sl σ).2 = 0 ∧ fitD (T 5 0) (srS G sl σ) (srF G sl σ Z0F)
  · have hd := (cs_p h).mpr hc
    unfold apS
    rw [if_pos hc, hd.1, sel_0]
    unfold addT
    rw [if_pos hd.2, srF_p _ h]
    unfold apF
    rw [if_pos h]
    rfl
  · unfold apS
    rw [if_neg hc]
    by_cases hz : (perT G sl (oneT G sl (strN 0) σ)).2 = 0
    · rw [hz, sel_0]; exact if_neg (fun z => hc ((cs_p h).mp ⟨hz, z⟩))
    · exact sel_n hz _ _
theorem ap_l {T : TT} (h : srS G sl σ = 3) : sel (lawT G sl (oneT G sl (strN 0) σ)).2 (setL T (numV G sl 1 (oneT G sl (strN 0) σ))) T = apS G sl T σ := by
  by_cases hc : (srT G sl σ).2 = 0 ∧ fitD (T 5 0) (srS G sl σ) (srF G sl σ Z0F)
  · have hd := (cs_l (n := T 5 0) h).mpr hc
    unfold apS
    rw [if_pos hc, hd.1, sel_0]
    unfold setL
    rw [if_pos hd.2, srF_l _ h]
    unfold apF
    rw [if_neg (by rw [h]; decide), if_pos h]
    rfl
  · unfold apS
    rw [if_neg hc]
    by_cases hz : (lawT G sl (oneT G sl (strN 0) σ)).2 = 0
    · rw [hz, sel_0]; exact if_neg (fun z => hc ((cs_l h).mp ⟨hz, z⟩))
    · exact sel_n hz _ _
theorem ap_m {T : TT} {bo : Nat} (h0 : srS G sl σ ≠ 0) (h3 : srS G sl σ ≠ 3) (hb : bo = 0 ↔ srS G sl σ ≠ 2) : sel (minT G sl (oneT G sl (strN 0) σ)).2 (addM T (minA G sl (oneT G sl (strN 0) σ)) (minB G sl (oneT G sl (strN 0) σ)) (minM G sl (oneT G sl (strN 0) σ)) bo) T = apS G sl T σ := by
  by_cases hc : (srT G sl σ).2 = 0 ∧ fitD (T 5 0) (srS G sl σ) (srF G sl σ Z0F)
  · have hd := (cs_m h0 h3).mpr hc
    unfold apS
    rw [if_pos hc, hd.1, sel_0]
    unfold addM
    rw [if_pos hd.2, srF_m _ h0 h3]
    unfold apF
    rw [if_neg h0, if_neg h3]
    by_cases h2 : srS G sl σ = 2
    · rw [if_pos h2, if_neg (fun z => hb.mp z h2)]; rfl
    · rw [if_neg h2, if_pos (hb.mpr h2)]; rfl
  · unfold apS
    rw [if_neg hc]
    by_cases hz : (minT G sl (oneT G sl (strN 0) σ)).2 = 0
    · rw [hz, sel_0]; exact if_neg (fun z => hc ((cs_m h0 h3).mp ⟨hz, z⟩))
    · exact sel_n hz _ _
end RX1
theorem un_le {G : Nat → Nat} {sl : Nat} {T : TT} {p : Nat} {u : Option Nat} (hu : ∀ z, u = some z → z ≤ 64) (hp : p ≤ 64) {z : Nat} (hz : unC G sl T p u = some z) : z ≤ 64 := by
  unfold unC at hz
  split at hz
  · cases hz; exact hp
  · exact hu z hz

set_option maxHeartbeats 4000000 in
set_option maxRecDepth 100000 in
theorem c_X1_indexIn (l : Launch) (D : va_G) (cI cC : ClassId) (z0 : Nat) (aK aV : Nat → Nat) (l0 l1 : Nat) (G : Nat → Nat) (sl : Nat) (σ : Nat × Nat) (i : Nat) (hz0 : z0 ≤ l0) (hz1 : z0 ≤ l1) (hsl : sl ≤ 64) (hG : ∀ j, G j < 256) (hσ : σ.1 ≤ sl) (hσb : σ.2 = 0 ∨ σ.2 = 1) (hi : i < 6) : XMi l yX1_indexIn wsX1_indexIn ({ frames := 4, cells := 0, slots := 0, locals := 91 } : Room) D (xT cI cC) (xES z0 aK aV) [(l0, .inr (1, [.ref l1, .int (nI sl), .int (nI σ.1), .int (nI σ.2)])), (l1, .inl (cC, 64, .inl (fun i_ => nI (G i_))))] [.ref l0, .ref (aK i)] (S := Unit) (fun r _ => r = oI (oneS G sl (strN i) σ)) (fun _ => [(l0, .inr (1, [.ref l1, .int (nI sl), .int (nI σ.1), .int (nI σ.2)])), (l1, .inl (cC, 64, .inl (fun i_ => nI (G i_))))]) 0 0 := by
  refine xMetS_i (cc := cX1_indexIn) (nL := 2) (ret := some .int) ((List.forall_mem_cons.mpr ⟨hz0, (List.forall_mem_cons.mpr ⟨hz1, (fun _ h => absurd h List.not_mem_nil)⟩)⟩)) (by decide +kernel) rfl (Nat.le_of_ble_eq_true rfl) (fun κ A h0 hn0 hE hAz => ?_)
  have hiX1 : ∀ w ∈ u_ws RX1 TX1 4, w ∈ wsX1_indexIn := by decide +kernel
  refine xlv (lv' := [(0, .ref l0), (1, .ref (aK i))]) [0, 1] rfl ?_
  refine xaload_n h0 0 dX1_indexIn_0 rfl rfl ?_
  refine xget (C := RX1) (T := TX1) (N := 4) (ci := 1) (v := .int (nI σ.2)) h0 hiX1 0 rfl rfl 3 (by decide) (List.mem_of_getElem? (i := 1) rfl) rfl dX1_indexIn_1 ?_
  refine xnif_ne (tgt := 34) h0 dX1_indexIn_4 (by decide) (by omega) (fun c_1 => ?_) (fun c_1 => ?_)
  · skip
    refine xiconst (v := (-1)) h0 dX1_indexIn_34 (by decide) ?_
    exact xiret h0 dX1_indexIn_35 () (by unfold oneS; first | (rw [if_neg (by omega)]; rfl) | (rw [if_pos ⟨by omega, by omega⟩])) rfl
  · skip
    refine xaload_n h0 0 dX1_indexIn_7 rfl rfl ?_
    refine xget (C := RX1) (T := TX1) (N := 4) (ci := 1) (v := .int (nI σ.1)) h0 hiX1 0 rfl rfl 2 (by decide) (List.mem_of_getElem? (i := 2) rfl) rfl dX1_indexIn_8 ?_
    refine xnif_lt (tgt := 34) h0 dX1_indexIn_11 (by decide) (by omega) ?_
    refine xaload_n h0 0 dX1_indexIn_14 rfl rfl ?_
    refine xget (C := RX1) (T := TX1) (N := 4) (ci := 1) (v := .int (nI σ.1)) h0 hiX1 0 rfl rfl 2 (by decide) (List.mem_of_getElem? (i := 2) rfl) rfl dX1_indexIn_15 ?_
    refine xaload_n h0 0 dX1_indexIn_18 rfl rfl ?_
    refine xget (C := RX1) (T := TX1) (N := 4) (ci := 1) (v := .int (nI sl)) h0 hiX1 0 rfl rfl 1 (by decide) (List.mem_of_getElem? (i := 3) rfl) rfl dX1_indexIn_19 ?_
    refine xncmp_ge (tgt := 34) h0 dX1_indexIn_22 (by decide) (by omega) (by omega) (fun c_3 => ?_) (fun c_3 => ?_)
    · skip
      refine xiconst (v := (-1)) h0 dX1_indexIn_34 (by decide) ?_
      exact xiret h0 dX1_indexIn_35 () (by unfold oneS; first | (rw [if_neg (by omega)]; rfl) | (rw [if_pos ⟨by omega, by omega⟩])) rfl
    · skip
      refine xaload_n h0 0 dX1_indexIn_25 rfl rfl ?_
      refine xget (C := RX1) (T := TX1) (N := 4) (ci := 1) (v := .int (nI σ.1)) h0 hiX1 0 rfl rfl 2 (by decide) (List.mem_of_getElem? (i := 2) rfl) rfl dX1_indexIn_26 ?_
      refine xbipush (v := (nI 64)) h0 dX1_indexIn_29 (by decide) ?_
      refine xncmp_lt (tgt := 36) h0 dX1_indexIn_31 (by decide) (by omega) (by omega) (fun c_4 => ?_) (fun c_4 => ?_)
      · skip
        refine xaload_n h0 1 dX1_indexIn_36 rfl rfl ?_
        refine xaload_n h0 0 dX1_indexIn_37 rfl rfl ?_
        refine xget (C := RX1) (T := TX1) (N := 4) (ci := 1) (v := .ref l1) h0 hiX1 0 rfl rfl 0 (by decide) (List.mem_of_getElem? (i := 4) rfl) rfl dX1_indexIn_38 ?_
        refine xaload_n h0 0 dX1_indexIn_41 rfl rfl ?_
        refine xget (C := RX1) (T := TX1) (N := 4) (ci := 1) (v := .int (nI σ.1)) h0 hiX1 0 rfl rfl 2 (by decide) (List.mem_of_getElem? (i := 2) rfl) rfl dX1_indexIn_42 ?_
        refine xcald (v := (nI (G σ.1))) h0 1 1 rfl rfl (by omega) (by decide) dX1_indexIn_45 (rfl) ?_
        refine xcallVK_i (nn := 1) (w2 := fun u_ => [(l0, .inr (1, [.ref l1, .int (nI sl), .int (nI σ.1), .int (nI σ.2)])), (l1, .inl (cC, 64, .inl (fun i_ => nI (G i_))))]) (wr := [(l0, .inr (1, [.ref l1, .int (nI sl), .int (nI σ.1), .int (nI σ.2)])), (l1, .inl (cC, 64, .inl (fun i_ => nI (G i_))))]) (rest := []) h0 hE hAz i (by omega) (c_J0_indexOf_0f7a4 (xL κ) D cI cC z0 aK aV i (G σ.1) (by omega) (by exact hG _)) gX1_indexIn_J0_indexOf_0f7a4 (by decide +kernel) rfl rfl rfl rfl ⟨Nat.le_of_ble_eq_true rfl, Nat.le_of_ble_eq_true rfl⟩ ⟨by decide, by decide⟩ xES_bl (fun _ _ _ hS_ _ hU_ hW_ => xES_keep hE hAz hS_ hU_ hW_) rfl (Nat.le_of_ble_eq_true rfl) rfl [] [0, 1] [0, 1] ⟨rfl, rfl, rfl, rfl, rfl⟩ (fun _ => ⟨rfl, rfl⟩) dX1_indexIn_46 (fun r_6 u_ hr_5 => ?_)
        subst hr_5
        exact xiret h0 dX1_indexIn_49 () (by unfold oneS; first | (rw [if_neg (by omega)]; rfl) | (rw [if_pos ⟨by omega, by omega⟩])) rfl
      · exact absurd c_4 (by omega)
set_option maxHeartbeats 4000000 in
set_option maxRecDepth 100000 in
theorem c_X1_oneOf (l : Launch) (D : va_G) (cI cC : ClassId) (z0 : Nat) (aK aV : Nat → Nat) (l0 l1 : Nat) (G : Nat → Nat) (sl : Nat) (σ : Nat × Nat) (i : Nat) (hz0 : z0 ≤ l0) (hz1 : z0 ≤ l1) (hsl : sl ≤ 64) (hG : ∀ j, G j < 256) (hσ : σ.1 ≤ sl) (hσb : σ.2 = 0 ∨ σ.2 = 1) (hi : i < 6) : XMi l yX1_oneOf wsX1_oneOf ({ frames := 5, cells := 0, slots := 0, locals := 112 } : Room) D (xT cI cC) (xES z0 aK aV) [(l0, .inr (1, [.ref l1, .int (nI sl), .int (nI σ.1), .int (nI σ.2)])), (l1, .inl (cC, 64, .inl (fun i_ => nI (G i_))))] [.ref l0, .ref (aK i)] (S := Unit) (fun r _ => r = oI (oneS G sl (strN i) σ)) (fun _ => [(l0, .inr (1, [.ref l1, .int (nI sl), .int (nI ((oneT G sl (strN i) σ).1)), .int (nI ((oneT G sl (strN i) σ).2))])), (l1, .inl (cC, 64, .inl (fun i_ => nI (G i_))))]) 0 0 := by
  refine xMetS_i (cc := cX1_oneOf) (nL := 3) (ret := some .int) ((List.forall_mem_cons.mpr ⟨hz0, (List.forall_mem_cons.mpr ⟨hz1, (fun _ h => absurd h List.not_mem_nil)⟩)⟩)) (by decide +kernel) rfl (Nat.le_of_ble_eq_true rfl) (fun κ A h0 hn0 hE hAz => ?_)
  have hiX1 : ∀ w ∈ u_ws RX1 TX1 4, w ∈ wsX1_oneOf := by decide +kernel
  refine xlv (lv' := [(0, .ref l0), (1, .ref (aK i))]) [0, 1] rfl ?_
  refine xaload_n h0 0 dX1_oneOf_0 rfl rfl ?_
  refine xaload_n h0 1 dX1_oneOf_1 rfl rfl ?_
  refine xcallV_i (nn := 1) (w2 := fun u_ => [(l0, .inr (1, [.ref l1, .int (nI sl), .int (nI σ.1), .int (nI σ.2)])), (l1, .inl (cC, 64, .inl (fun i_ => nI (G i_))))]) (wr := []) (rest := []) h0 (c_X1_indexIn (xL κ) D cI cC z0 aK aV l0 l1 G sl σ i hz0 hz1 hsl hG hσ hσb (by omega)) gX1_oneOf_X1_indexIn (by decide +kernel) rfl rfl rfl ⟨Nat.le_of_ble_eq_true rfl, Nat.le_of_ble_eq_true rfl⟩ ⟨by decide, by decide⟩ xES_bl (fun _ _ _ hS_ _ hU_ hW_ => xES_keep hE hAz hS_ hU_ hW_) rfl (Nat.le_of_ble_eq_true rfl) (q0 := 0) rfl rfl rfl [0, 1] [] [0, 1] ⟨rfl, rfl, rfl, rfl, rfl⟩ (fun _ => ⟨rfl, rfl⟩) dX1_oneOf_2 (fun r_2 u_ hr_1 => ?_)
  subst hr_1
  refine xistore_n (lv' := [(2, .int (oI (oneS G sl (strN i) σ))), (0, .ref l0), (1, .ref (aK i))]) h0 dX1_oneOf_5 rfl (by decide) rfl ?_
  refine xiload_n h0 0 dX1_oneOf_6 rfl rfl ?_
  refine xif_ge (tgt := 18) h0 dX1_oneOf_7 (by decide)  (fun c_3 => ?_) (fun c_3 => ?_)
  · skip
    obtain ⟨q, hq⟩ := oI_nn c_3
    have hs := oneS_in hq
    refine xaload_n h0 1 dX1_oneOf_18 rfl rfl ?_
    refine xdup h0 dX1_oneOf_19 rfl ?_
    refine xget (C := RX1) (T := TX1) (N := 4) (ci := 1) (v := .int (nI σ.1)) h0 hiX1 0 rfl rfl 2 (by decide) (List.mem_of_getElem? (i := 2) rfl) rfl dX1_oneOf_20 ?_
    refine xiconst (v := (nI 1)) h0 dX1_oneOf_23 (by decide) ?_
    refine xiadd (v := (nI (σ.1 + 1))) h0 dX1_oneOf_24 (nI_add _ _) ?_
    refine xput (ws' := [(l0, .inr (1, [.ref l1, .int (nI sl), .int (nI (σ.1 + 1)), .int (nI σ.2)])), (l1, .inl (cC, 64, .inl (fun i_ => nI (G i_))))]) (C := RX1) (T := TX1) (N := 4) (ci := 1) (ty := tyX1 2) h0 hiX1 tyX1 tyX1_ok nmX1 0 rfl rfl 2 (by decide) (List.mem_of_getElem? (i := 2) rfl) rfl (by decide +kernel) (rfl) (rfl) (Nat.le_of_ble_eq_true rfl) dX1_oneOf_25 rfl ?_
    refine xiload_n h0 0 dX1_oneOf_28 rfl rfl ?_
    exact xiret h0 dX1_oneOf_29 () (by rfl) (by first | (rw [oneT_s hq, hs.1]; first | done | rfl) | (rw [oneT_n hq]; first | done | rfl))
  · skip
    have hq := oI_ng (one_31 hi) c_3
    refine xaload_n h0 1 dX1_oneOf_10 rfl rfl ?_
    refine xiconst (v := (nI 1)) h0 dX1_oneOf_11 (by decide) ?_
    refine xput (ws' := [(l0, .inr (1, [.ref l1, .int (nI sl), .int (nI σ.1), .int (nI 1)])), (l1, .inl (cC, 64, .inl (fun i_ => nI (G i_))))]) (C := RX1) (T := TX1) (N := 4) (ci := 1) (ty := tyX1 3) h0 hiX1 tyX1 tyX1_ok nmX1 0 rfl rfl 3 (by decide) (List.mem_of_getElem? (i := 1) rfl) rfl (by decide +kernel) (rfl) (rfl) (Nat.le_of_ble_eq_true rfl) dX1_oneOf_12 rfl ?_
    refine xgoto (tgt := 28) h0 dX1_oneOf_15 (by decide) ?_
    refine xiload_n h0 0 dX1_oneOf_28 rfl rfl ?_
    exact xiret h0 dX1_oneOf_29 () (by rfl) (by first | (rw [oneT_s hq, hs.1]; first | done | rfl) | (rw [oneT_n hq]; first | done | rfl))
set_option maxHeartbeats 4000000 in
set_option maxRecDepth 100000 in
theorem c_X1_number (l : Launch) (D : va_G) (cI cC : ClassId) (z0 : Nat) (aK aV : Nat → Nat) (l0 l1 : Nat) (G : Nat → Nat) (sl : Nat) (σ : Nat × Nat) (m : Nat) (hz0 : z0 ≤ l0) (hz1 : z0 ≤ l1) (hsl : sl ≤ 64) (hG : ∀ j, G j < 256) (hσ : σ.1 ≤ sl) (hσb : σ.2 = 0 ∨ σ.2 = 1) (hm1 : 1 ≤ m) (hm3 : m ≤ 3) : XMi l yX1_number wsX1_number ({ frames := 6, cells := 0, slots := 0, locals := 134 } : Room) D (xT cI cC) (xES z0 aK aV) [(l0, .inr (1, [.ref l1, .int (nI sl), .int (nI σ.1), .int (nI σ.2)])), (l1, .inl (cC, 64, .inl (fun i_ => nI (G i_))))] [.ref l0, .int (nI m)] (S := Unit) (fun r _ => r = numI G sl m σ) (fun _ => [(l0, .inr (1, [.ref l1, .int (nI sl), .int (nI ((numT G sl m σ).1)), .int (nI ((numT G sl m σ).2))])), (l1, .inl (cC, 64, .inl (fun i_ => nI (G i_))))]) 0 0 := by
  refine xMetS_i (cc := cX1_number) (nL := 4) (ret := some .int) ((List.forall_mem_cons.mpr ⟨hz0, (List.forall_mem_cons.mpr ⟨hz1, (fun _ h => absurd h List.not_mem_nil)⟩)⟩)) (by decide +kernel) rfl (Nat.le_of_ble_eq_true rfl) (fun κ A h0 hn0 hE hAz => ?_)
  refine xlv (lv' := [(0, .ref l0), (1, .int (nI m))]) [0, 1] rfl ?_
  refine xaload_n h0 0 dX1_number_0 rfl rfl ?_
  refine xldcS h0 hE rfl 5 (by decide) (ix := 72) rfl dX1_number_1 ?_
  refine xcallV_i (nn := 1) (w2 := fun u_ => [(l0, .inr (1, [.ref l1, .int (nI sl), .int (nI ((oneT G sl (strN 5) σ).1)), .int (nI ((oneT G sl (strN 5) σ).2))])), (l1, .inl (cC, 64, .inl (fun i_ => nI (G i_))))]) (wr := []) (rest := []) h0 (c_X1_oneOf (xL κ) D cI cC z0 aK aV l0 l1 G sl σ 5 hz0 hz1 hsl hG hσ hσb (by omega)) gX1_number_X1_oneOf (by decide +kernel) rfl rfl rfl ⟨Nat.le_of_ble_eq_true rfl, Nat.le_of_ble_eq_true rfl⟩ ⟨by decide, by decide⟩ xES_bl (fun _ _ _ hS_ _ hU_ hW_ => xES_keep hE hAz hS_ hU_ hW_) rfl (Nat.le_of_ble_eq_true rfl) (q0 := 0) rfl rfl rfl [0, 1] [] [0, 1] ⟨rfl, rfl, rfl, rfl, rfl⟩ (fun _ => ⟨rfl, rfl⟩) dX1_number_3 (fun r_2 u_ hr_1 => ?_)
  subst hr_1
  refine xistore_n (lv' := [(2, .int (oI (oneS G sl (strN 5) σ))), (0, .ref l0), (1, .int (nI m))]) h0 dX1_number_6 rfl (by decide) rfl ?_
  refine xlvE (lv' := [(2, .int (numI G sl 1 σ)), (0, .ref l0), (1, .int (nI m))]) (by rw [num_1i]) ?_
  refine xeq (ws' := [(l0, .inr (1, [.ref l1, .int (nI sl), .int (nI ((numT G sl 1 σ).1)), .int (nI ((numT G sl 1 σ).2))])), (l1, .inl (cC, 64, .inl (fun i_ => nI (G i_))))]) (by rw [num_1]) ?_
  refine xiconst (v := (nI 1)) h0 dX1_number_7 (by decide) ?_
  refine xistore_n (lv' := [(3, .int (nI 1)), (2, .int (numI G sl 1 σ)), (0, .ref l0), (1, .int (nI m))]) h0 dX1_number_8 rfl (by decide) rfl ?_
  have lp : ∀ (d_ : Nat) (i : Nat), (5 - i ≤ d_) → (1 ≤ i) → (i ≤ m) → ((numK G sl σ i).1 = i ∨ (numK G sl σ i).1 = 0) → XG κ 4 D (xT cI cC) A (xQi (S := Unit) κ D (xT cI cC) A (fun r _ => r = numI G sl m σ) (fun _ => [(l0, .inr (1, [.ref l1, .int (nI sl), .int (nI ((numT G sl m σ).1)), .int (nI ((numT G sl m σ).2))])), (l1, .inl (cC, 64, .inl (fun i_ => nI (G i_))))]) 0 0) [(l0, .inr (1, [.ref l1, .int (nI sl), .int (nI ((numT G sl i σ).1)), .int (nI ((numT G sl i σ).2))])), (l1, .inl (cC, 64, .inl (fun i_ => nI (G i_))))] 0 0 9 [(0, .ref l0), (1, .int (nI m)), (2, .int (numI G sl i σ)), (3, .int (nI i))] [] := by
    intro d_
    induction d_ with
    | zero => intro i hm_ h1 him hc; exact absurd hm_ (by omega)
    | succ d_ ih_lp =>
      intro i hm_ h1 him hc
      refine xiload_n h0 3 dX1_number_9 rfl rfl ?_
      refine xiload_n h0 1 dX1_number_10 rfl rfl ?_
      refine xncmp_ge (tgt := 41) h0 dX1_number_11 (by decide) (by first | omega | exact b01 oneT_b | exact b01 numT_b) (by first | omega | exact b01 oneT_b | exact b01 numT_b) (fun c_3 => ?_) (fun c_3 => ?_)
      · skip
        have hK : numK G sl σ m = numK G sl σ i := by rw [show m = i by omega]
        refine xiload_n h0 2 dX1_number_41 rfl rfl ?_
        exact xiret h0 dX1_number_42 () (by unfold numI; rw [hK]) (by unfold numT; rw [hK])
      · skip
        refine xaload_n h0 0 dX1_number_14 rfl rfl ?_
        refine xldcS h0 hE rfl 5 (by decide) (ix := 72) rfl dX1_number_15 ?_
        refine xcallV_i (nn := 1) (w2 := fun u_ => [(l0, .inr (1, [.ref l1, .int (nI sl), .int (nI ((numT G sl i σ).1)), .int (nI ((numT G sl i σ).2))])), (l1, .inl (cC, 64, .inl (fun i_ => nI (G i_))))]) (wr := []) (rest := []) h0 (c_X1_indexIn (xL κ) D cI cC z0 aK aV l0 l1 G sl (numT G sl i σ) 5 hz0 hz1 hsl hG (numT_le hσ) numT_b (by omega)) gX1_number_X1_indexIn (by decide +kernel) rfl rfl rfl ⟨Nat.le_of_ble_eq_true rfl, Nat.le_of_ble_eq_true rfl⟩ ⟨by decide, by decide⟩ xES_bl (fun _ _ _ hS_ _ hU_ hW_ => xES_keep hE hAz hS_ hU_ hW_) rfl (Nat.le_of_ble_eq_true rfl) (q0 := 0) rfl rfl rfl [0, 1] [] [0, 1] ⟨rfl, rfl, rfl, rfl, rfl⟩ (fun _ => ⟨rfl, rfl⟩) dX1_number_17 (fun r_5 u_ hr_4 => ?_)
        subst hr_4
        refine xif_lt (tgt := 41) h0 dX1_number_20 (by decide)  (fun c_6 => ?_) (fun c_6 => ?_)
        · skip
          have hK := num_end h1 him (oI_lt (one_31 (by decide)) c_6)
          refine xiload_n h0 2 dX1_number_41 rfl rfl ?_
          exact xiret h0 dX1_number_42 () (by unfold numI; rw [hK]) (by unfold numT; rw [hK])
        · skip
          obtain ⟨d, hd⟩ := oI_ge c_6
          have hg := num_go hc hd
          refine xlvE (lv' := [(0, .ref l0), (1, .int (nI m)), (2, .int (nI (numV G sl i σ))), (3, .int (nI i))]) (by rw [hg.2.1]) ?_
          refine xiload_n h0 2 dX1_number_23 rfl rfl ?_
          refine xbipush (v := (nI 10)) h0 dX1_number_24 (by decide) ?_
          refine ximul (v := (nI ((numV G sl i σ) * 10))) h0 dX1_number_26 (pk_mul _ _) ?_
          refine xaload_n h0 0 dX1_number_27 rfl rfl ?_
          refine xldcS h0 hE rfl 5 (by decide) (ix := 72) rfl dX1_number_28 ?_
          refine xcallV_i (nn := 1) (w2 := fun u_ => [(l0, .inr (1, [.ref l1, .int (nI sl), .int (nI ((oneT G sl (strN 5) (numT G sl i σ)).1)), .int (nI ((oneT G sl (strN 5) (numT G sl i σ)).2))])), (l1, .inl (cC, 64, .inl (fun i_ => nI (G i_))))]) (wr := []) (rest := [.int (nI ((numV G sl i σ) * 10))]) h0 (c_X1_oneOf (xL κ) D cI cC z0 aK aV l0 l1 G sl (numT G sl i σ) 5 hz0 hz1 hsl hG (numT_le hσ) numT_b (by omega)) gX1_number_X1_oneOf (by decide +kernel) rfl rfl rfl ⟨Nat.le_of_ble_eq_true rfl, Nat.le_of_ble_eq_true rfl⟩ ⟨by decide, by decide⟩ xES_bl (fun _ _ _ hS_ _ hU_ hW_ => xES_keep hE hAz hS_ hU_ hW_) rfl (Nat.le_of_ble_eq_true rfl) (q0 := 0) rfl rfl rfl [0, 1] [] [0, 1] ⟨rfl, rfl, rfl, rfl, rfl⟩ (fun _ => ⟨rfl, rfl⟩) dX1_number_30 (fun r_8 u_ hr_7 => ?_)
          subst hr_7
          refine xtop (v' := nI d) (by rw [hd]; first | done | rfl) ?_
          refine xeq (ws' := [(l0, .inr (1, [.ref l1, .int (nI sl), .int (nI ((numT G sl (i + 1) σ).1)), .int (nI ((numT G sl (i + 1) σ).2))])), (l1, .inl (cC, 64, .inl (fun i_ => nI (G i_))))]) (by rw [hg.1]) ?_
          refine xiadd (v := (nI (((numV G sl i σ) * 10) + d))) h0 dX1_number_33 (nI_add _ _) ?_
          refine xistore_n (lv' := [(2, .int (nI (((numV G sl i σ) * 10) + d))), (0, .ref l0), (1, .int (nI m)), (3, .int (nI i))]) h0 dX1_number_34 rfl (by decide) rfl ?_
          refine xlvE (lv' := [(2, .int (numI G sl (i + 1) σ)), (0, .ref l0), (1, .int (nI m)), (3, .int (nI i))]) (by rw [hg.2.2.1]) ?_
          refine xiinc (v := (nI (i + 1))) (lv' := [(3, .int (nI (i + 1))), (2, .int (numI G sl (i + 1) σ)), (0, .ref l0), (1, .int (nI m))]) h0 3 dX1_number_35 rfl (nI_add _ _) (by decide) rfl ?_
          refine xgoto (tgt := 9) h0 dX1_number_38 (by decide) ?_
          refine xlv [2, 3, 1, 0] rfl ?_
          exact ih_lp (i + 1) (by omega) (by omega) (by omega) (by exact Or.inl hg.2.2.2)
  refine xlv [2, 3, 1, 0] rfl ?_
  exact lp (5) 1 (by omega) (by decide) (by exact hm1) (by exact num_1c)
set_option maxHeartbeats 4000000 in
set_option maxRecDepth 100000 in
theorem c_X1_readLaw (l : Launch) (D : va_G) (cI cC : ClassId) (z0 : Nat) (aK aV : Nat → Nat) (l0 l1 : Nat) (G : Nat → Nat) (sl : Nat) (σ : Nat × Nat) (a : Nat → Nat) (T : TT) (k mu tm dy : Nat) (hz0 : z0 ≤ l0) (hz1 : z0 ≤ l1) (hsl : sl ≤ 64) (hG : ∀ j, G j < 256) (hσ : σ.1 ≤ sl) (hσb : σ.2 = 0 ∨ σ.2 = 1) (hza : ∀ i, i < 9 → z0 ≤ a i) (hT : TOK T) : XMi l yX1_readLaw wsX1_readLaw ({ frames := 7, cells := 0, slots := 0, locals := 157 } : Room) D (xT cI cC) (xES z0 aK aV) ([(l0, .inr (1, [.ref l1, .int (nI sl), .int (nI σ.1), .int (nI σ.2)])), (l1, .inl (cC, 64, .inl (fun i_ => nI (G i_))))] ++ (wTown cI a T k mu tm dy)) [.ref l0, .ref (a 0)] (S := Unit) (fun r _ => r = bI ((oneT G sl (strN 4) (numT G sl 1 σ)).2 = 0 ∧ numV G sl 1 σ ≤ 4)) (fun _ => ([(l0, .inr (1, [.ref l1, .int (nI sl), .int (nI ((oneT G sl (strN 4) (numT G sl 1 σ)).1)), .int (nI ((oneT G sl (strN 4) (numT G sl 1 σ)).2))])), (l1, .inl (cC, 64, .inl (fun i_ => nI (G i_))))] ++ (wTown cI a (sel (oneT G sl (strN 4) (numT G sl 1 σ)).2 (setL T (numV G sl 1 σ)) T) k mu tm dy))) 0 0 := by
  refine xMetS_i (cc := cX1_readLaw) (nL := 3) (ret := some .boolean) ((List.forall_mem_cons.mpr ⟨hz0, (List.forall_mem_cons.mpr ⟨hz1, (List.forall_mem_cons.mpr ⟨(hza 0 (by decide)), (List.forall_mem_cons.mpr ⟨(hza 1 (by decide)), (List.forall_mem_cons.mpr ⟨(hza 2 (by decide)), (List.forall_mem_cons.mpr ⟨(hza 3 (by decide)), (List.forall_mem_cons.mpr ⟨(hza 4 (by decide)), (List.forall_mem_cons.mpr ⟨(hza 5 (by decide)), (List.forall_mem_cons.mpr ⟨(hza 6 (by decide)), (List.forall_mem_cons.mpr ⟨(hza 7 (by decide)), (List.forall_mem_cons.mpr ⟨(hza 8 (by decide)), (fun _ h => absurd h List.not_mem_nil)⟩)⟩)⟩)⟩)⟩)⟩)⟩)⟩)⟩)⟩)⟩)) (by decide +kernel) rfl (Nat.le_of_ble_eq_true rfl) (fun κ A h0 hn0 hE hAz => ?_)
  have hiX1 : ∀ w ∈ u_ws RX1 TX1 4, w ∈ wsX1_readLaw := by decide +kernel
  refine xlv (lv' := [(0, .ref l0), (1, .ref (a 0))]) [0, 1] rfl ?_
  refine xaload_n h0 0 dX1_readLaw_0 rfl rfl ?_
  refine xiconst (v := (nI 1)) h0 dX1_readLaw_1 (by decide) ?_
  refine xcallV_i (nn := 1) (w2 := fun u_ => ([(l0, .inr (1, [.ref l1, .int (nI sl), .int (nI ((numT G sl 1 σ).1)), .int (nI ((numT G sl 1 σ).2))])), (l1, .inl (cC, 64, .inl (fun i_ => nI (G i_))))] ++ (wTown cI a T k mu tm dy))) (wr := [(a 0, .inr (3, [.ref (a 1), .ref (a 2), .ref (a 3), .ref (a 4), .ref (a 5), .ref (a 6), .ref (a 7), .ref (a 8), .int (nI (T 5 0)), .int (nI (T 5 1)), .int (nI k), .int (nI tm), .int (nI dy)])), (a 1, .inl (cI, 8, .inl (fun i_ => nI (T 0 i_)))), (a 2, .inl (cI, 8, .inl (fun i_ => nI (T 1 i_)))), (a 3, .inl (cI, 8, .inl (fun i_ => nI (T 2 i_)))), (a 4, .inl (cI, 8, .inl (fun i_ => nI (T 3 i_)))), (a 5, .inl (cI, 8, .inl (fun i_ => nI (mtS T i_)))), (a 6, .inl (cI, 8, .inl (fun i_ => nI (rcS T mu i_)))), (a 7, .inl (cI, 8, .inl (fun i_ => nI (bkS T i_)))), (a 8, .inl (cI, 64, .inl (fun i_ => nI (T 4 i_))))]) (rest := []) h0 (c_X1_number (xL κ) D cI cC z0 aK aV l0 l1 G sl σ 1 hz0 hz1 hsl hG hσ hσb (by omega) (by omega)) gX1_readLaw_X1_number (by decide +kernel) rfl rfl rfl ⟨Nat.le_of_ble_eq_true rfl, Nat.le_of_ble_eq_true rfl⟩ ⟨by decide, by decide⟩ xES_bl (fun _ _ _ hS_ _ hU_ hW_ => xES_keep hE hAz hS_ hU_ hW_) rfl (Nat.le_of_ble_eq_true rfl) (q0 := 0) rfl rfl rfl [0, 1] [2, 3, 4, 5, 6, 7, 8, 9, 10] [9, 10, 0, 1, 2, 3, 4, 5, 6, 7, 8] ⟨rfl, rfl, rfl, rfl, rfl⟩ (fun _ => ⟨rfl, rfl⟩) dX1_readLaw_2 (fun r_2 u_ hr_1 => ?_)
  subst hr_1
  refine xistore_n (lv' := [(2, .int (numI G sl 1 σ)), (0, .ref l0), (1, .ref (a 0))]) h0 dX1_readLaw_5 rfl (by decide) rfl ?_
  refine xaload_n h0 1 dX1_readLaw_6 rfl rfl ?_
  refine xldcS h0 hE rfl 4 (by decide) (ix := 56) rfl dX1_readLaw_7 ?_
  refine xcallV_i (nn := 1) (w2 := fun u_ => ([(l0, .inr (1, [.ref l1, .int (nI sl), .int (nI ((oneT G sl (strN 4) (numT G sl 1 σ)).1)), .int (nI ((oneT G sl (strN 4) (numT G sl 1 σ)).2))])), (l1, .inl (cC, 64, .inl (fun i_ => nI (G i_))))] ++ (wTown cI a T k mu tm dy))) (wr := [(a 0, .inr (3, [.ref (a 1), .ref (a 2), .ref (a 3), .ref (a 4), .ref (a 5), .ref (a 6), .ref (a 7), .ref (a 8), .int (nI (T 5 0)), .int (nI (T 5 1)), .int (nI k), .int (nI tm), .int (nI dy)])), (a 1, .inl (cI, 8, .inl (fun i_ => nI (T 0 i_)))), (a 2, .inl (cI, 8, .inl (fun i_ => nI (T 1 i_)))), (a 3, .inl (cI, 8, .inl (fun i_ => nI (T 2 i_)))), (a 4, .inl (cI, 8, .inl (fun i_ => nI (T 3 i_)))), (a 5, .inl (cI, 8, .inl (fun i_ => nI (mtS T i_)))), (a 6, .inl (cI, 8, .inl (fun i_ => nI (rcS T mu i_)))), (a 7, .inl (cI, 8, .inl (fun i_ => nI (bkS T i_)))), (a 8, .inl (cI, 64, .inl (fun i_ => nI (T 4 i_))))]) (rest := []) h0 (c_X1_oneOf (xL κ) D cI cC z0 aK aV l0 l1 G sl (numT G sl 1 σ) 4 hz0 hz1 hsl hG (numT_le hσ) numT_b (by omega)) gX1_readLaw_X1_oneOf (by decide +kernel) rfl rfl rfl ⟨Nat.le_of_ble_eq_true rfl, Nat.le_of_ble_eq_true rfl⟩ ⟨by decide, by decide⟩ xES_bl (fun _ _ _ hS_ _ hU_ hW_ => xES_keep hE hAz hS_ hU_ hW_) rfl (Nat.le_of_ble_eq_true rfl) (q0 := 0) rfl rfl rfl [0, 1] [2, 3, 4, 5, 6, 7, 8, 9, 10] [9, 10, 0, 1, 2, 3, 4, 5, 6, 7, 8] ⟨rfl, rfl, rfl, rfl, rfl⟩ (fun _ => ⟨rfl, rfl⟩) dX1_readLaw_9 (fun r_4 u_ hr_3 => ?_)
  subst hr_3
  refine xpop h0 dX1_readLaw_12 rfl ?_
  refine xaload_n h0 1 dX1_readLaw_13 rfl rfl ?_
  refine xget (C := RX1) (T := TX1) (N := 4) (ci := 1) (v := .int (nI ((oneT G sl (strN 4) (numT G sl 1 σ)).2))) h0 hiX1 0 rfl rfl 3 (by decide) (List.mem_of_getElem? (i := 1) rfl) rfl dX1_readLaw_14 ?_
  refine xnif_ne (tgt := 32) h0 dX1_readLaw_17 (by decide) (by first | omega | exact b01 oneT_b | exact b01 numT_b) (fun c_5 => ?_) (fun c_5 => ?_)
  · skip
    have hk0 : ¬ (oneT G sl (strN 4) (numT G sl 1 σ)).2 = 0 := Nat.pos_iff_ne_zero.mp c_5
    refine xiconst (v := (nI 0)) h0 dX1_readLaw_32 (by decide) ?_
    exact xzret h0 dX1_readLaw_33 nar_n0 () (by exact (bI_f (by first | exact ⟨hk0, by assumption⟩ | exact fun z => hk0 z.1 | exact fun z => absurd z.2 (by assumption))).symm) (by first | (rw [sel_n hk0]; first | done | rfl) | (rw [hk0, sel_0]; first | done | rfl) | (rw [sel, if_pos hk0]; first | done | rfl))
  · skip
    have hk0 : (oneT G sl (strN 4) (numT G sl 1 σ)).2 = 0 := c_5
    have hf := law_0 hk0
    refine xlvE (lv' := [(2, .int (nI (numV G sl 1 σ))), (0, .ref l0), (1, .ref (a 0))]) (by rw [hf.2.1]) ?_
    refine xaload_n h0 2 dX1_readLaw_20 rfl rfl ?_
    refine xiload_n h0 0 dX1_readLaw_21 rfl rfl ?_
    refine xcallV_i (nn := 1) (w2 := fun u_ => ([(l0, .inr (1, [.ref l1, .int (nI sl), .int (nI ((oneT G sl (strN 4) (numT G sl 1 σ)).1)), .int (nI ((oneT G sl (strN 4) (numT G sl 1 σ)).2))])), (l1, .inl (cC, 64, .inl (fun i_ => nI (G i_))))] ++ (wTown cI a (setL T (numV G sl 1 σ)) k mu tm dy))) (wr := [(l0, .inr (1, [.ref l1, .int (nI sl), .int (nI ((oneT G sl (strN 4) (numT G sl 1 σ)).1)), .int (nI ((oneT G sl (strN 4) (numT G sl 1 σ)).2))])), (l1, .inl (cC, 64, .inl (fun i_ => nI (G i_))))]) (rest := []) h0 (c_X3_setLaw (xL κ) D cI cC a T k mu tm dy (numV G sl 1 σ) (by first | (exact Nat.lt_trans (numV_lt (by decide)) (by decide)) | omega)) gX1_readLaw_X3_setLaw (by decide +kernel) rfl rfl rfl ⟨Nat.le_of_ble_eq_true rfl, Nat.le_of_ble_eq_true rfl⟩ ⟨by decide, by decide⟩ (fun _ _ _ _ h => h) (fun _ _ _ _ _ _ _ => trivial) rfl (Nat.le_of_ble_eq_true rfl) (q0 := 0) rfl rfl rfl [2, 3, 4, 5, 6, 7, 8, 9, 10] [0, 1] [0, 1, 2, 3, 4, 5, 6, 7, 8, 9, 10] ⟨rfl, rfl, rfl, rfl, rfl⟩ (fun _ => ⟨rfl, rfl⟩) dX1_readLaw_22 (fun r_7 u_ hr_6 => ?_)
    subst hr_6
    refine xbif_eq (tgt := 32) h0 dX1_readLaw_25 (by decide)  (fun c_8 => ?_) (fun c_8 => ?_)
    · skip
      refine xiconst (v := (nI 0)) h0 dX1_readLaw_32 (by decide) ?_
      exact xzret h0 dX1_readLaw_33 nar_n0 () (by exact (bI_f (by first | exact ⟨hk0, by assumption⟩ | exact fun z => hk0 z.1 | exact fun z => absurd z.2 (by assumption))).symm) (by first | (rw [sel_n hk0]; first | done | rfl) | (rw [hk0, sel_0]; first | done | rfl) | (rw [sel, if_pos hk0]; first | done | rfl))
    · skip
      refine xiconst (v := (nI 1)) h0 dX1_readLaw_28 (by decide) ?_
      refine xgoto (tgt := 33) h0 dX1_readLaw_29 (by decide) ?_
      exact xzret h0 dX1_readLaw_33 nar_n1 () (by exact (bI_t (by first | exact ⟨hk0, by assumption⟩ | exact fun z => hk0 z.1 | exact fun z => absurd z.2 (by assumption))).symm) (by first | (rw [sel_n hk0]; first | done | rfl) | (rw [hk0, sel_0]; first | done | rfl) | (rw [sel, if_pos hk0]; first | done | rfl))
set_option maxHeartbeats 4000000 in
set_option maxRecDepth 100000 in
theorem c_X1_readMinutes (l : Launch) (D : va_G) (cI cC : ClassId) (z0 : Nat) (aK aV : Nat → Nat) (l0 l1 : Nat) (G : Nat → Nat) (sl : Nat) (σ : Nat × Nat) (a : Nat → Nat) (T : TT) (k mu tm dy : Nat) (bo : Nat) (hz0 : z0 ≤ l0) (hz1 : z0 ≤ l1) (hsl : sl ≤ 64) (hG : ∀ j, G j < 256) (hσ : σ.1 ≤ sl) (hσb : σ.2 = 0 ∨ σ.2 = 1) (hza : ∀ i, i < 9 → z0 ≤ a i) (hT : TOK T) (hmu : 8 ≤ mu) (hbo : bo < 2) : XMi l yX1_readMinutes wsX1_readMinutes ({ frames := 7, cells := 0, slots := 0, locals := 157 } : Room) D (xT cI cC) (xES z0 aK aV) ([(l0, .inr (1, [.ref l1, .int (nI sl), .int (nI σ.1), .int (nI σ.2)])), (l1, .inl (cC, 64, .inl (fun i_ => nI (G i_))))] ++ (wTown cI a T k mu tm dy)) [.ref l0, .ref (a 0), .int (nI bo)] (S := Unit) (fun r _ => r = bI ((oneT G sl (strN 4) (numT G sl 2 (oneT G sl (strN 3) (numT G sl 1 (numT G sl 1 σ))))).2 = 0 ∧ (numV G sl 1 σ < T 5 0 ∧ numV G sl 1 (numT G sl 1 σ) < T 5 0 ∧ numV G sl 1 σ ≠ numV G sl 1 (numT G sl 1 σ) ∧ 1 ≤ numV G sl 2 (oneT G sl (strN 3) (numT G sl 1 (numT G sl 1 σ))) ∧ numV G sl 2 (oneT G sl (strN 3) (numT G sl 1 (numT G sl 1 σ))) ≤ 60))) (fun _ => ([(l0, .inr (1, [.ref l1, .int (nI sl), .int (nI ((oneT G sl (strN 4) (numT G sl 2 (oneT G sl (strN 3) (numT G sl 1 (numT G sl 1 σ))))).1)), .int (nI ((oneT G sl (strN 4) (numT G sl 2 (oneT G sl (strN 3) (numT G sl 1 (numT G sl 1 σ))))).2))])), (l1, .inl (cC, 64, .inl (fun i_ => nI (G i_))))] ++ (wTown cI a (sel (oneT G sl (strN 4) (numT G sl 2 (oneT G sl (strN 3) (numT G sl 1 (numT G sl 1 σ))))).2 (addM T (numV G sl 1 σ) (numV G sl 1 (numT G sl 1 σ)) (numV G sl 2 (oneT G sl (strN 3) (numT G sl 1 (numT G sl 1 σ)))) bo) T) k mu tm dy))) 0 0 := by
  refine xMetS_i (cc := cX1_readMinutes) (nL := 6) (ret := some .boolean) ((List.forall_mem_cons.mpr ⟨hz0, (List.forall_mem_cons.mpr ⟨hz1, (List.forall_mem_cons.mpr ⟨(hza 0 (by decide)), (List.forall_mem_cons.mpr ⟨(hza 1 (by decide)), (List.forall_mem_cons.mpr ⟨(hza 2 (by decide)), (List.forall_mem_cons.mpr ⟨(hza 3 (by decide)), (List.forall_mem_cons.mpr ⟨(hza 4 (by decide)), (List.forall_mem_cons.mpr ⟨(hza 5 (by decide)), (List.forall_mem_cons.mpr ⟨(hza 6 (by decide)), (List.forall_mem_cons.mpr ⟨(hza 7 (by decide)), (List.forall_mem_cons.mpr ⟨(hza 8 (by decide)), (fun _ h => absurd h List.not_mem_nil)⟩)⟩)⟩)⟩)⟩)⟩)⟩)⟩)⟩)⟩)⟩)) (by decide +kernel) rfl (Nat.le_of_ble_eq_true rfl) (fun κ A h0 hn0 hE hAz => ?_)
  have hiX1 : ∀ w ∈ u_ws RX1 TX1 4, w ∈ wsX1_readMinutes := by decide +kernel
  refine xlv (lv' := [(0, .ref l0), (1, .ref (a 0)), (2, .int (nI bo))]) [0, 1, 2] rfl ?_
  have hn := hT.1
  refine xaload_n h0 0 dX1_readMinutes_0 rfl rfl ?_
  refine xiconst (v := (nI 1)) h0 dX1_readMinutes_1 (by decide) ?_
  refine xcallV_i (nn := 1) (w2 := fun u_ => ([(l0, .inr (1, [.ref l1, .int (nI sl), .int (nI ((numT G sl 1 σ).1)), .int (nI ((numT G sl 1 σ).2))])), (l1, .inl (cC, 64, .inl (fun i_ => nI (G i_))))] ++ (wTown cI a T k mu tm dy))) (wr := [(a 0, .inr (3, [.ref (a 1), .ref (a 2), .ref (a 3), .ref (a 4), .ref (a 5), .ref (a 6), .ref (a 7), .ref (a 8), .int (nI (T 5 0)), .int (nI (T 5 1)), .int (nI k), .int (nI tm), .int (nI dy)])), (a 1, .inl (cI, 8, .inl (fun i_ => nI (T 0 i_)))), (a 2, .inl (cI, 8, .inl (fun i_ => nI (T 1 i_)))), (a 3, .inl (cI, 8, .inl (fun i_ => nI (T 2 i_)))), (a 4, .inl (cI, 8, .inl (fun i_ => nI (T 3 i_)))), (a 5, .inl (cI, 8, .inl (fun i_ => nI (mtS T i_)))), (a 6, .inl (cI, 8, .inl (fun i_ => nI (rcS T mu i_)))), (a 7, .inl (cI, 8, .inl (fun i_ => nI (bkS T i_)))), (a 8, .inl (cI, 64, .inl (fun i_ => nI (T 4 i_))))]) (rest := []) h0 (c_X1_number (xL κ) D cI cC z0 aK aV l0 l1 G sl σ 1 hz0 hz1 hsl hG hσ hσb (by omega) (by omega)) gX1_readMinutes_X1_number (by decide +kernel) rfl rfl rfl ⟨Nat.le_of_ble_eq_true rfl, Nat.le_of_ble_eq_true rfl⟩ ⟨by decide, by decide⟩ xES_bl (fun _ _ _ hS_ _ hU_ hW_ => xES_keep hE hAz hS_ hU_ hW_) rfl (Nat.le_of_ble_eq_true rfl) (q0 := 0) rfl rfl rfl [0, 1] [2, 3, 4, 5, 6, 7, 8, 9, 10] [9, 10, 0, 1, 2, 3, 4, 5, 6, 7, 8] ⟨rfl, rfl, rfl, rfl, rfl⟩ (fun _ => ⟨rfl, rfl⟩) dX1_readMinutes_2 (fun r_2 u_ hr_1 => ?_)
  subst hr_1
  refine xistore_n (lv' := [(3, .int (numI G sl 1 σ)), (0, .ref l0), (1, .ref (a 0)), (2, .int (nI bo))]) h0 dX1_readMinutes_5 rfl (by decide) rfl ?_
  refine xaload_n h0 1 dX1_readMinutes_6 rfl rfl ?_
  refine xiconst (v := (nI 1)) h0 dX1_readMinutes_7 (by decide) ?_
  refine xcallV_i (nn := 1) (w2 := fun u_ => ([(l0, .inr (1, [.ref l1, .int (nI sl), .int (nI ((numT G sl 1 (numT G sl 1 σ)).1)), .int (nI ((numT G sl 1 (numT G sl 1 σ)).2))])), (l1, .inl (cC, 64, .inl (fun i_ => nI (G i_))))] ++ (wTown cI a T k mu tm dy))) (wr := [(a 0, .inr (3, [.ref (a 1), .ref (a 2), .ref (a 3), .ref (a 4), .ref (a 5), .ref (a 6), .ref (a 7), .ref (a 8), .int (nI (T 5 0)), .int (nI (T 5 1)), .int (nI k), .int (nI tm), .int (nI dy)])), (a 1, .inl (cI, 8, .inl (fun i_ => nI (T 0 i_)))), (a 2, .inl (cI, 8, .inl (fun i_ => nI (T 1 i_)))), (a 3, .inl (cI, 8, .inl (fun i_ => nI (T 2 i_)))), (a 4, .inl (cI, 8, .inl (fun i_ => nI (T 3 i_)))), (a 5, .inl (cI, 8, .inl (fun i_ => nI (mtS T i_)))), (a 6, .inl (cI, 8, .inl (fun i_ => nI (rcS T mu i_)))), (a 7, .inl (cI, 8, .inl (fun i_ => nI (bkS T i_)))), (a 8, .inl (cI, 64, .inl (fun i_ => nI (T 4 i_))))]) (rest := []) h0 (c_X1_number (xL κ) D cI cC z0 aK aV l0 l1 G sl (numT G sl 1 σ) 1 hz0 hz1 hsl hG (numT_le hσ) numT_b (by omega) (by omega)) gX1_readMinutes_X1_number (by decide +kernel) rfl rfl rfl ⟨Nat.le_of_ble_eq_true rfl, Nat.le_of_ble_eq_true rfl⟩ ⟨by decide, by decide⟩ xES_bl (fun _ _ _ hS_ _ hU_ hW_ => xES_keep hE hAz hS_ hU_ hW_) rfl (Nat.le_of_ble_eq_true rfl) (q0 := 0) rfl rfl rfl [0, 1] [2, 3, 4, 5, 6, 7, 8, 9, 10] [9, 10, 0, 1, 2, 3, 4, 5, 6, 7, 8] ⟨rfl, rfl, rfl, rfl, rfl⟩ (fun _ => ⟨rfl, rfl⟩) dX1_readMinutes_8 (fun r_4 u_ hr_3 => ?_)
  subst hr_3
  refine xistore (lv' := [(4, .int (numI G sl 1 (numT G sl 1 σ))), (3, .int (numI G sl 1 σ)), (0, .ref l0), (1, .ref (a 0)), (2, .int (nI bo))]) h0 dX1_readMinutes_11 (by decide) rfl ?_
  refine xaload_n h0 2 dX1_readMinutes_13 rfl rfl ?_
  refine xldcS h0 hE rfl 3 (by decide) (ix := 54) rfl dX1_readMinutes_14 ?_
  refine xcallV_i (nn := 1) (w2 := fun u_ => ([(l0, .inr (1, [.ref l1, .int (nI sl), .int (nI ((oneT G sl (strN 3) (numT G sl 1 (numT G sl 1 σ))).1)), .int (nI ((oneT G sl (strN 3) (numT G sl 1 (numT G sl 1 σ))).2))])), (l1, .inl (cC, 64, .inl (fun i_ => nI (G i_))))] ++ (wTown cI a T k mu tm dy))) (wr := [(a 0, .inr (3, [.ref (a 1), .ref (a 2), .ref (a 3), .ref (a 4), .ref (a 5), .ref (a 6), .ref (a 7), .ref (a 8), .int (nI (T 5 0)), .int (nI (T 5 1)), .int (nI k), .int (nI tm), .int (nI dy)])), (a 1, .inl (cI, 8, .inl (fun i_ => nI (T 0 i_)))), (a 2, .inl (cI, 8, .inl (fun i_ => nI (T 1 i_)))), (a 3, .inl (cI, 8, .inl (fun i_ => nI (T 2 i_)))), (a 4, .inl (cI, 8, .inl (fun i_ => nI (T 3 i_)))), (a 5, .inl (cI, 8, .inl (fun i_ => nI (mtS T i_)))), (a 6, .inl (cI, 8, .inl (fun i_ => nI (rcS T mu i_)))), (a 7, .inl (cI, 8, .inl (fun i_ => nI (bkS T i_)))), (a 8, .inl (cI, 64, .inl (fun i_ => nI (T 4 i_))))]) (rest := []) h0 (c_X1_oneOf (xL κ) D cI cC z0 aK aV l0 l1 G sl (numT G sl 1 (numT G sl 1 σ)) 3 hz0 hz1 hsl hG (numT_le (numT_le hσ)) numT_b (by omega)) gX1_readMinutes_X1_oneOf (by decide +kernel) rfl rfl rfl ⟨Nat.le_of_ble_eq_true rfl, Nat.le_of_ble_eq_true rfl⟩ ⟨by decide, by decide⟩ xES_bl (fun _ _ _ hS_ _ hU_ hW_ => xES_keep hE hAz hS_ hU_ hW_) rfl (Nat.le_of_ble_eq_true rfl) (q0 := 0) rfl rfl rfl [0, 1] [2, 3, 4, 5, 6, 7, 8, 9, 10] [9, 10, 0, 1, 2, 3, 4, 5, 6, 7, 8] ⟨rfl, rfl, rfl, rfl, rfl⟩ (fun _ => ⟨rfl, rfl⟩) dX1_readMinutes_16 (fun r_6 u_ hr_5 => ?_)
  subst hr_5
  refine xpop h0 dX1_readMinutes_19 rfl ?_
  refine xaload_n h0 2 dX1_readMinutes_20 rfl rfl ?_
  refine xiconst (v := (nI 2)) h0 dX1_readMinutes_21 (by decide) ?_
  refine xcallV_i (nn := 1) (w2 := fun u_ => ([(l0, .inr (1, [.ref l1, .int (nI sl), .int (nI ((numT G sl 2 (oneT G sl (strN 3) (numT G sl 1 (numT G sl 1 σ)))).1)), .int (nI ((numT G sl 2 (oneT G sl (strN 3) (numT G sl 1 (numT G sl 1 σ)))).2))])), (l1, .inl (cC, 64, .inl (fun i_ => nI (G i_))))] ++ (wTown cI a T k mu tm dy))) (wr := [(a 0, .inr (3, [.ref (a 1), .ref (a 2), .ref (a 3), .ref (a 4), .ref (a 5), .ref (a 6), .ref (a 7), .ref (a 8), .int (nI (T 5 0)), .int (nI (T 5 1)), .int (nI k), .int (nI tm), .int (nI dy)])), (a 1, .inl (cI, 8, .inl (fun i_ => nI (T 0 i_)))), (a 2, .inl (cI, 8, .inl (fun i_ => nI (T 1 i_)))), (a 3, .inl (cI, 8, .inl (fun i_ => nI (T 2 i_)))), (a 4, .inl (cI, 8, .inl (fun i_ => nI (T 3 i_)))), (a 5, .inl (cI, 8, .inl (fun i_ => nI (mtS T i_)))), (a 6, .inl (cI, 8, .inl (fun i_ => nI (rcS T mu i_)))), (a 7, .inl (cI, 8, .inl (fun i_ => nI (bkS T i_)))), (a 8, .inl (cI, 64, .inl (fun i_ => nI (T 4 i_))))]) (rest := []) h0 (c_X1_number (xL κ) D cI cC z0 aK aV l0 l1 G sl (oneT G sl (strN 3) (numT G sl 1 (numT G sl 1 σ))) 2 hz0 hz1 hsl hG (oneT_le (numT_le (numT_le hσ))) oneT_b (by omega) (by omega)) gX1_readMinutes_X1_number (by decide +kernel) rfl rfl rfl ⟨Nat.le_of_ble_eq_true rfl, Nat.le_of_ble_eq_true rfl⟩ ⟨by decide, by decide⟩ xES_bl (fun _ _ _ hS_ _ hU_ hW_ => xES_keep hE hAz hS_ hU_ hW_) rfl (Nat.le_of_ble_eq_true rfl) (q0 := 0) rfl rfl rfl [0, 1] [2, 3, 4, 5, 6, 7, 8, 9, 10] [9, 10, 0, 1, 2, 3, 4, 5, 6, 7, 8] ⟨rfl, rfl, rfl, rfl, rfl⟩ (fun _ => ⟨rfl, rfl⟩) dX1_readMinutes_22 (fun r_8 u_ hr_7 => ?_)
  subst hr_7
  refine xistore (lv' := [(5, .int (numI G sl 2 (oneT G sl (strN 3) (numT G sl 1 (numT G sl 1 σ))))), (4, .int (numI G sl 1 (numT G sl 1 σ))), (3, .int (numI G sl 1 σ)), (0, .ref l0), (1, .ref (a 0)), (2, .int (nI bo))]) h0 dX1_readMinutes_25 (by decide) rfl ?_
  refine xaload_n h0 3 dX1_readMinutes_27 rfl rfl ?_
  refine xldcS h0 hE rfl 4 (by decide) (ix := 56) rfl dX1_readMinutes_28 ?_
  refine xcallV_i (nn := 1) (w2 := fun u_ => ([(l0, .inr (1, [.ref l1, .int (nI sl), .int (nI ((oneT G sl (strN 4) (numT G sl 2 (oneT G sl (strN 3) (numT G sl 1 (numT G sl 1 σ))))).1)), .int (nI ((oneT G sl (strN 4) (numT G sl 2 (oneT G sl (strN 3) (numT G sl 1 (numT G sl 1 σ))))).2))])), (l1, .inl (cC, 64, .inl (fun i_ => nI (G i_))))] ++ (wTown cI a T k mu tm dy))) (wr := [(a 0, .inr (3, [.ref (a 1), .ref (a 2), .ref (a 3), .ref (a 4), .ref (a 5), .ref (a 6), .ref (a 7), .ref (a 8), .int (nI (T 5 0)), .int (nI (T 5 1)), .int (nI k), .int (nI tm), .int (nI dy)])), (a 1, .inl (cI, 8, .inl (fun i_ => nI (T 0 i_)))), (a 2, .inl (cI, 8, .inl (fun i_ => nI (T 1 i_)))), (a 3, .inl (cI, 8, .inl (fun i_ => nI (T 2 i_)))), (a 4, .inl (cI, 8, .inl (fun i_ => nI (T 3 i_)))), (a 5, .inl (cI, 8, .inl (fun i_ => nI (mtS T i_)))), (a 6, .inl (cI, 8, .inl (fun i_ => nI (rcS T mu i_)))), (a 7, .inl (cI, 8, .inl (fun i_ => nI (bkS T i_)))), (a 8, .inl (cI, 64, .inl (fun i_ => nI (T 4 i_))))]) (rest := []) h0 (c_X1_oneOf (xL κ) D cI cC z0 aK aV l0 l1 G sl (numT G sl 2 (oneT G sl (strN 3) (numT G sl 1 (numT G sl 1 σ)))) 4 hz0 hz1 hsl hG (numT_le (oneT_le (numT_le (numT_le hσ)))) numT_b (by omega)) gX1_readMinutes_X1_oneOf (by decide +kernel) rfl rfl rfl ⟨Nat.le_of_ble_eq_true rfl, Nat.le_of_ble_eq_true rfl⟩ ⟨by decide, by decide⟩ xES_bl (fun _ _ _ hS_ _ hU_ hW_ => xES_keep hE hAz hS_ hU_ hW_) rfl (Nat.le_of_ble_eq_true rfl) (q0 := 0) rfl rfl rfl [0, 1] [2, 3, 4, 5, 6, 7, 8, 9, 10] [9, 10, 0, 1, 2, 3, 4, 5, 6, 7, 8] ⟨rfl, rfl, rfl, rfl, rfl⟩ (fun _ => ⟨rfl, rfl⟩) dX1_readMinutes_30 (fun r_10 u_ hr_9 => ?_)
  subst hr_9
  refine xpop h0 dX1_readMinutes_33 rfl ?_
  refine xaload_n h0 3 dX1_readMinutes_34 rfl rfl ?_
  refine xget (C := RX1) (T := TX1) (N := 4) (ci := 1) (v := .int (nI ((oneT G sl (strN 4) (numT G sl 2 (oneT G sl (strN 3) (numT G sl 1 (numT G sl 1 σ))))).2))) h0 hiX1 0 rfl rfl 3 (by decide) (List.mem_of_getElem? (i := 1) rfl) rfl dX1_readMinutes_35 ?_
  refine xnif_ne (tgt := 58) h0 dX1_readMinutes_38 (by decide) (by first | omega | exact b01 oneT_b | exact b01 numT_b) (fun c_11 => ?_) (fun c_11 => ?_)
  · skip
    have hk0 : ¬ (oneT G sl (strN 4) (numT G sl 2 (oneT G sl (strN 3) (numT G sl 1 (numT G sl 1 σ))))).2 = 0 := Nat.pos_iff_ne_zero.mp c_11
    refine xiconst (v := (nI 0)) h0 dX1_readMinutes_58 (by decide) ?_
    exact xzret h0 dX1_readMinutes_59 nar_n0 () (by exact (bI_f (by first | exact ⟨hk0, by assumption⟩ | exact fun z => hk0 z.1 | exact fun z => absurd z.2 (by assumption))).symm) (by first | (rw [sel_n hk0]; first | done | rfl) | (rw [hk0, sel_0]; first | done | rfl) | (rw [sel, if_pos hk0]; first | done | rfl))
  · skip
    have hk0 : (oneT G sl (strN 4) (numT G sl 2 (oneT G sl (strN 3) (numT G sl 1 (numT G sl 1 σ))))).2 = 0 := c_11
    have hf := min_0 hk0
    refine xlvE (lv' := [(5, .int (numI G sl 2 (oneT G sl (strN 3) (numT G sl 1 (numT G sl 1 σ))))), (4, .int (numI G sl 1 (numT G sl 1 σ))), (3, .int (nI (numV G sl 1 σ))), (0, .ref l0), (1, .ref (a 0)), (2, .int (nI bo))]) (by rw [hf.2.1]) ?_
    refine xlvE (lv' := [(5, .int (numI G sl 2 (oneT G sl (strN 3) (numT G sl 1 (numT G sl 1 σ))))), (4, .int (nI (numV G sl 1 (numT G sl 1 σ)))), (3, .int (nI (numV G sl 1 σ))), (0, .ref l0), (1, .ref (a 0)), (2, .int (nI bo))]) (by rw [hf.2.2.1]) ?_
    refine xlvE (lv' := [(5, .int (nI (numV G sl 2 (oneT G sl (strN 3) (numT G sl 1 (numT G sl 1 σ)))))), (4, .int (nI (numV G sl 1 (numT G sl 1 σ)))), (3, .int (nI (numV G sl 1 σ))), (0, .ref l0), (1, .ref (a 0)), (2, .int (nI bo))]) (by rw [hf.2.2.2.1]) ?_
    refine xaload_n h0 4 dX1_readMinutes_41 rfl rfl ?_
    refine xiload_n h0 2 dX1_readMinutes_42 rfl rfl ?_
    refine xiload h0 1 dX1_readMinutes_43 rfl ?_
    refine xiload h0 0 dX1_readMinutes_45 rfl ?_
    refine xiload_n h0 5 dX1_readMinutes_47 rfl rfl ?_
    refine xcallV_i (nn := 4) (w2 := fun u_ => ([(l0, .inr (1, [.ref l1, .int (nI sl), .int (nI ((oneT G sl (strN 4) (numT G sl 2 (oneT G sl (strN 3) (numT G sl 1 (numT G sl 1 σ))))).1)), .int (nI ((oneT G sl (strN 4) (numT G sl 2 (oneT G sl (strN 3) (numT G sl 1 (numT G sl 1 σ))))).2))])), (l1, .inl (cC, 64, .inl (fun i_ => nI (G i_))))] ++ (wTown cI a (addM T (numV G sl 1 σ) (numV G sl 1 (numT G sl 1 σ)) (numV G sl 2 (oneT G sl (strN 3) (numT G sl 1 (numT G sl 1 σ)))) bo) k mu tm dy))) (wr := [(l0, .inr (1, [.ref l1, .int (nI sl), .int (nI ((oneT G sl (strN 4) (numT G sl 2 (oneT G sl (strN 3) (numT G sl 1 (numT G sl 1 σ))))).1)), .int (nI ((oneT G sl (strN 4) (numT G sl 2 (oneT G sl (strN 3) (numT G sl 1 (numT G sl 1 σ))))).2))])), (l1, .inl (cC, 64, .inl (fun i_ => nI (G i_))))]) (rest := []) h0 (c_X3_addMinutes (xL κ) D cI cC a T k mu tm dy (numV G sl 1 σ) (numV G sl 1 (numT G sl 1 σ)) (numV G sl 2 (oneT G sl (strN 3) (numT G sl 1 (numT G sl 1 σ)))) bo (by exact hn) (by first | (exact Nat.lt_trans (numV_lt (by decide)) (by decide)) | omega) (by first | (exact Nat.lt_trans (numV_lt (by decide)) (by decide)) | omega) (by first | (exact Nat.lt_trans (numV_lt (by decide)) (by decide)) | omega) (by omega) (by exact hmu)) gX1_readMinutes_X3_addMinutes (by decide +kernel) rfl rfl rfl ⟨Nat.le_of_ble_eq_true rfl, Nat.le_of_ble_eq_true rfl⟩ ⟨by decide, by decide⟩ (fun _ _ _ _ h => h) (fun _ _ _ _ _ _ _ => trivial) rfl (Nat.le_of_ble_eq_true rfl) (q0 := 0) rfl rfl rfl [2, 3, 4, 5, 6, 7, 8, 9, 10] [0, 1] [0, 1, 2, 3, 4, 5, 6, 7, 8, 9, 10] ⟨rfl, rfl, rfl, rfl, rfl⟩ (fun _ => ⟨rfl, rfl⟩) dX1_readMinutes_48 (fun r_13 u_ hr_12 => ?_)
    subst hr_12
    refine xbif_eq (tgt := 58) h0 dX1_readMinutes_51 (by decide)  (fun c_14 => ?_) (fun c_14 => ?_)
    · skip
      refine xiconst (v := (nI 0)) h0 dX1_readMinutes_58 (by decide) ?_
      exact xzret h0 dX1_readMinutes_59 nar_n0 () (by exact (bI_f (by first | exact ⟨hk0, by assumption⟩ | exact fun z => hk0 z.1 | exact fun z => absurd z.2 (by assumption))).symm) (by first | (rw [sel_n hk0]; first | done | rfl) | (rw [hk0, sel_0]; first | done | rfl) | (rw [sel, if_pos hk0]; first | done | rfl))
    · skip
      refine xiconst (v := (nI 1)) h0 dX1_readMinutes_54 (by decide) ?_
      refine xgoto (tgt := 59) h0 dX1_readMinutes_55 (by decide) ?_
      exact xzret h0 dX1_readMinutes_59 nar_n1 () (by exact (bI_t (by first | exact ⟨hk0, by assumption⟩ | exact fun z => hk0 z.1 | exact fun z => absurd z.2 (by assumption))).symm) (by first | (rw [sel_n hk0]; first | done | rfl) | (rw [hk0, sel_0]; first | done | rfl) | (rw [sel, if_pos hk0]; first | done | rfl))
set_option maxHeartbeats 4000000 in
set_option maxRecDepth 100000 in
theorem c_X1_readPerson (l : Launch) (D : va_G) (cI cC : ClassId) (z0 : Nat) (aK aV : Nat → Nat) (l0 l1 : Nat) (G : Nat → Nat) (sl : Nat) (σ : Nat × Nat) (a : Nat → Nat) (T : TT) (k mu tm dy : Nat) (hz0 : z0 ≤ l0) (hz1 : z0 ≤ l1) (hsl : sl ≤ 64) (hG : ∀ j, G j < 256) (hσ : σ.1 ≤ sl) (hσb : σ.2 = 0 ∨ σ.2 = 1) (hza : ∀ i, i < 9 → z0 ≤ a i) (hT : TOK T) : XMi l yX1_readPerson wsX1_readPerson ({ frames := 7, cells := 0, slots := 0, locals := 157 } : Room) D (xT cI cC) (xES z0 aK aV) ([(l0, .inr (1, [.ref l1, .int (nI sl), .int (nI σ.1), .int (nI σ.2)])), (l1, .inl (cC, 64, .inl (fun i_ => nI (G i_))))] ++ (wTown cI a T k mu tm dy)) [.ref l0, .ref (a 0)] (S := Unit) (fun r _ => r = bI ((oneT G sl (strN 4) (numT G sl 1 (oneT G sl (strN 3) (numT G sl 3 (oneT G sl (strN 2) (oneT G sl (strN 1) σ)))))).2 = 0 ∧ (T 5 0 < 8 ∧ numV G sl 3 (oneT G sl (strN 2) (oneT G sl (strN 1) σ)) ≤ 100))) (fun _ => ([(l0, .inr (1, [.ref l1, .int (nI sl), .int (nI ((oneT G sl (strN 4) (numT G sl 1 (oneT G sl (strN 3) (numT G sl 3 (oneT G sl (strN 2) (oneT G sl (strN 1) σ)))))).1)), .int (nI ((oneT G sl (strN 4) (numT G sl 1 (oneT G sl (strN 3) (numT G sl 3 (oneT G sl (strN 2) (oneT G sl (strN 1) σ)))))).2))])), (l1, .inl (cC, 64, .inl (fun i_ => nI (G i_))))] ++ (wTown cI a (sel (oneT G sl (strN 4) (numT G sl 1 (oneT G sl (strN 3) (numT G sl 3 (oneT G sl (strN 2) (oneT G sl (strN 1) σ)))))).2 (addT T ((oneS G sl (strN 1) σ).getD 0) ((oneS G sl (strN 2) (oneT G sl (strN 1) σ)).getD 0) (numV G sl 3 (oneT G sl (strN 2) (oneT G sl (strN 1) σ))) (numV G sl 1 (oneT G sl (strN 3) (numT G sl 3 (oneT G sl (strN 2) (oneT G sl (strN 1) σ)))))) T) k mu tm dy))) 0 0 := by
  refine xMetS_i (cc := cX1_readPerson) (nL := 6) (ret := some .boolean) ((List.forall_mem_cons.mpr ⟨hz0, (List.forall_mem_cons.mpr ⟨hz1, (List.forall_mem_cons.mpr ⟨(hza 0 (by decide)), (List.forall_mem_cons.mpr ⟨(hza 1 (by decide)), (List.forall_mem_cons.mpr ⟨(hza 2 (by decide)), (List.forall_mem_cons.mpr ⟨(hza 3 (by decide)), (List.forall_mem_cons.mpr ⟨(hza 4 (by decide)), (List.forall_mem_cons.mpr ⟨(hza 5 (by decide)), (List.forall_mem_cons.mpr ⟨(hza 6 (by decide)), (List.forall_mem_cons.mpr ⟨(hza 7 (by decide)), (List.forall_mem_cons.mpr ⟨(hza 8 (by decide)), (fun _ h => absurd h List.not_mem_nil)⟩)⟩)⟩)⟩)⟩)⟩)⟩)⟩)⟩)⟩)⟩)) (by decide +kernel) rfl (Nat.le_of_ble_eq_true rfl) (fun κ A h0 hn0 hE hAz => ?_)
  have hiX1 : ∀ w ∈ u_ws RX1 TX1 4, w ∈ wsX1_readPerson := by decide +kernel
  refine xlv (lv' := [(0, .ref l0), (1, .ref (a 0))]) [0, 1] rfl ?_
  have hn := hT.1
  refine xaload_n h0 0 dX1_readPerson_0 rfl rfl ?_
  refine xldcS h0 hE rfl 1 (by decide) (ix := 46) rfl dX1_readPerson_1 ?_
  refine xcallV_i (nn := 1) (w2 := fun u_ => ([(l0, .inr (1, [.ref l1, .int (nI sl), .int (nI ((oneT G sl (strN 1) σ).1)), .int (nI ((oneT G sl (strN 1) σ).2))])), (l1, .inl (cC, 64, .inl (fun i_ => nI (G i_))))] ++ (wTown cI a T k mu tm dy))) (wr := [(a 0, .inr (3, [.ref (a 1), .ref (a 2), .ref (a 3), .ref (a 4), .ref (a 5), .ref (a 6), .ref (a 7), .ref (a 8), .int (nI (T 5 0)), .int (nI (T 5 1)), .int (nI k), .int (nI tm), .int (nI dy)])), (a 1, .inl (cI, 8, .inl (fun i_ => nI (T 0 i_)))), (a 2, .inl (cI, 8, .inl (fun i_ => nI (T 1 i_)))), (a 3, .inl (cI, 8, .inl (fun i_ => nI (T 2 i_)))), (a 4, .inl (cI, 8, .inl (fun i_ => nI (T 3 i_)))), (a 5, .inl (cI, 8, .inl (fun i_ => nI (mtS T i_)))), (a 6, .inl (cI, 8, .inl (fun i_ => nI (rcS T mu i_)))), (a 7, .inl (cI, 8, .inl (fun i_ => nI (bkS T i_)))), (a 8, .inl (cI, 64, .inl (fun i_ => nI (T 4 i_))))]) (rest := []) h0 (c_X1_oneOf (xL κ) D cI cC z0 aK aV l0 l1 G sl σ 1 hz0 hz1 hsl hG hσ hσb (by omega)) gX1_readPerson_X1_oneOf (by decide +kernel) rfl rfl rfl ⟨Nat.le_of_ble_eq_true rfl, Nat.le_of_ble_eq_true rfl⟩ ⟨by decide, by decide⟩ xES_bl (fun _ _ _ hS_ _ hU_ hW_ => xES_keep hE hAz hS_ hU_ hW_) rfl (Nat.le_of_ble_eq_true rfl) (q0 := 0) rfl rfl rfl [0, 1] [2, 3, 4, 5, 6, 7, 8, 9, 10] [9, 10, 0, 1, 2, 3, 4, 5, 6, 7, 8] ⟨rfl, rfl, rfl, rfl, rfl⟩ (fun _ => ⟨rfl, rfl⟩) dX1_readPerson_3 (fun r_2 u_ hr_1 => ?_)
  subst hr_1
  refine xistore_n (lv' := [(2, .int (oI (oneS G sl (strN 1) σ))), (0, .ref l0), (1, .ref (a 0))]) h0 dX1_readPerson_6 rfl (by decide) rfl ?_
  refine xaload_n h0 1 dX1_readPerson_7 rfl rfl ?_
  refine xldcS h0 hE rfl 2 (by decide) (ix := 48) rfl dX1_readPerson_8 ?_
  refine xcallV_i (nn := 1) (w2 := fun u_ => ([(l0, .inr (1, [.ref l1, .int (nI sl), .int (nI ((oneT G sl (strN 2) (oneT G sl (strN 1) σ)).1)), .int (nI ((oneT G sl (strN 2) (oneT G sl (strN 1) σ)).2))])), (l1, .inl (cC, 64, .inl (fun i_ => nI (G i_))))] ++ (wTown cI a T k mu tm dy))) (wr := [(a 0, .inr (3, [.ref (a 1), .ref (a 2), .ref (a 3), .ref (a 4), .ref (a 5), .ref (a 6), .ref (a 7), .ref (a 8), .int (nI (T 5 0)), .int (nI (T 5 1)), .int (nI k), .int (nI tm), .int (nI dy)])), (a 1, .inl (cI, 8, .inl (fun i_ => nI (T 0 i_)))), (a 2, .inl (cI, 8, .inl (fun i_ => nI (T 1 i_)))), (a 3, .inl (cI, 8, .inl (fun i_ => nI (T 2 i_)))), (a 4, .inl (cI, 8, .inl (fun i_ => nI (T 3 i_)))), (a 5, .inl (cI, 8, .inl (fun i_ => nI (mtS T i_)))), (a 6, .inl (cI, 8, .inl (fun i_ => nI (rcS T mu i_)))), (a 7, .inl (cI, 8, .inl (fun i_ => nI (bkS T i_)))), (a 8, .inl (cI, 64, .inl (fun i_ => nI (T 4 i_))))]) (rest := []) h0 (c_X1_oneOf (xL κ) D cI cC z0 aK aV l0 l1 G sl (oneT G sl (strN 1) σ) 2 hz0 hz1 hsl hG (oneT_le hσ) oneT_b (by omega)) gX1_readPerson_X1_oneOf (by decide +kernel) rfl rfl rfl ⟨Nat.le_of_ble_eq_true rfl, Nat.le_of_ble_eq_true rfl⟩ ⟨by decide, by decide⟩ xES_bl (fun _ _ _ hS_ _ hU_ hW_ => xES_keep hE hAz hS_ hU_ hW_) rfl (Nat.le_of_ble_eq_true rfl) (q0 := 0) rfl rfl rfl [0, 1] [2, 3, 4, 5, 6, 7, 8, 9, 10] [9, 10, 0, 1, 2, 3, 4, 5, 6, 7, 8] ⟨rfl, rfl, rfl, rfl, rfl⟩ (fun _ => ⟨rfl, rfl⟩) dX1_readPerson_10 (fun r_4 u_ hr_3 => ?_)
  subst hr_3
  refine xistore_n (lv' := [(3, .int (oI (oneS G sl (strN 2) (oneT G sl (strN 1) σ)))), (2, .int (oI (oneS G sl (strN 1) σ))), (0, .ref l0), (1, .ref (a 0))]) h0 dX1_readPerson_13 rfl (by decide) rfl ?_
  refine xaload_n h0 2 dX1_readPerson_14 rfl rfl ?_
  refine xiconst (v := (nI 3)) h0 dX1_readPerson_15 (by decide) ?_
  refine xcallV_i (nn := 1) (w2 := fun u_ => ([(l0, .inr (1, [.ref l1, .int (nI sl), .int (nI ((numT G sl 3 (oneT G sl (strN 2) (oneT G sl (strN 1) σ))).1)), .int (nI ((numT G sl 3 (oneT G sl (strN 2) (oneT G sl (strN 1) σ))).2))])), (l1, .inl (cC, 64, .inl (fun i_ => nI (G i_))))] ++ (wTown cI a T k mu tm dy))) (wr := [(a 0, .inr (3, [.ref (a 1), .ref (a 2), .ref (a 3), .ref (a 4), .ref (a 5), .ref (a 6), .ref (a 7), .ref (a 8), .int (nI (T 5 0)), .int (nI (T 5 1)), .int (nI k), .int (nI tm), .int (nI dy)])), (a 1, .inl (cI, 8, .inl (fun i_ => nI (T 0 i_)))), (a 2, .inl (cI, 8, .inl (fun i_ => nI (T 1 i_)))), (a 3, .inl (cI, 8, .inl (fun i_ => nI (T 2 i_)))), (a 4, .inl (cI, 8, .inl (fun i_ => nI (T 3 i_)))), (a 5, .inl (cI, 8, .inl (fun i_ => nI (mtS T i_)))), (a 6, .inl (cI, 8, .inl (fun i_ => nI (rcS T mu i_)))), (a 7, .inl (cI, 8, .inl (fun i_ => nI (bkS T i_)))), (a 8, .inl (cI, 64, .inl (fun i_ => nI (T 4 i_))))]) (rest := []) h0 (c_X1_number (xL κ) D cI cC z0 aK aV l0 l1 G sl (oneT G sl (strN 2) (oneT G sl (strN 1) σ)) 3 hz0 hz1 hsl hG (oneT_le (oneT_le hσ)) oneT_b (by omega) (by omega)) gX1_readPerson_X1_number (by decide +kernel) rfl rfl rfl ⟨Nat.le_of_ble_eq_true rfl, Nat.le_of_ble_eq_true rfl⟩ ⟨by decide, by decide⟩ xES_bl (fun _ _ _ hS_ _ hU_ hW_ => xES_keep hE hAz hS_ hU_ hW_) rfl (Nat.le_of_ble_eq_true rfl) (q0 := 0) rfl rfl rfl [0, 1] [2, 3, 4, 5, 6, 7, 8, 9, 10] [9, 10, 0, 1, 2, 3, 4, 5, 6, 7, 8] ⟨rfl, rfl, rfl, rfl, rfl⟩ (fun _ => ⟨rfl, rfl⟩) dX1_readPerson_16 (fun r_6 u_ hr_5 => ?_)
  subst hr_5
  refine xistore (lv' := [(4, .int (numI G sl 3 (oneT G sl (strN 2) (oneT G sl (strN 1) σ)))), (3, .int (oI (oneS G sl (strN 2) (oneT G sl (strN 1) σ)))), (2, .int (oI (oneS G sl (strN 1) σ))), (0, .ref l0), (1, .ref (a 0))]) h0 dX1_readPerson_19 (by decide) rfl ?_
  refine xaload_n h0 3 dX1_readPerson_21 rfl rfl ?_
  refine xldcS h0 hE rfl 3 (by decide) (ix := 54) rfl dX1_readPerson_22 ?_
  refine xcallV_i (nn := 1) (w2 := fun u_ => ([(l0, .inr (1, [.ref l1, .int (nI sl), .int (nI ((oneT G sl (strN 3) (numT G sl 3 (oneT G sl (strN 2) (oneT G sl (strN 1) σ)))).1)), .int (nI ((oneT G sl (strN 3) (numT G sl 3 (oneT G sl (strN 2) (oneT G sl (strN 1) σ)))).2))])), (l1, .inl (cC, 64, .inl (fun i_ => nI (G i_))))] ++ (wTown cI a T k mu tm dy))) (wr := [(a 0, .inr (3, [.ref (a 1), .ref (a 2), .ref (a 3), .ref (a 4), .ref (a 5), .ref (a 6), .ref (a 7), .ref (a 8), .int (nI (T 5 0)), .int (nI (T 5 1)), .int (nI k), .int (nI tm), .int (nI dy)])), (a 1, .inl (cI, 8, .inl (fun i_ => nI (T 0 i_)))), (a 2, .inl (cI, 8, .inl (fun i_ => nI (T 1 i_)))), (a 3, .inl (cI, 8, .inl (fun i_ => nI (T 2 i_)))), (a 4, .inl (cI, 8, .inl (fun i_ => nI (T 3 i_)))), (a 5, .inl (cI, 8, .inl (fun i_ => nI (mtS T i_)))), (a 6, .inl (cI, 8, .inl (fun i_ => nI (rcS T mu i_)))), (a 7, .inl (cI, 8, .inl (fun i_ => nI (bkS T i_)))), (a 8, .inl (cI, 64, .inl (fun i_ => nI (T 4 i_))))]) (rest := []) h0 (c_X1_oneOf (xL κ) D cI cC z0 aK aV l0 l1 G sl (numT G sl 3 (oneT G sl (strN 2) (oneT G sl (strN 1) σ))) 3 hz0 hz1 hsl hG (numT_le (oneT_le (oneT_le hσ))) numT_b (by omega)) gX1_readPerson_X1_oneOf (by decide +kernel) rfl rfl rfl ⟨Nat.le_of_ble_eq_true rfl, Nat.le_of_ble_eq_true rfl⟩ ⟨by decide, by decide⟩ xES_bl (fun _ _ _ hS_ _ hU_ hW_ => xES_keep hE hAz hS_ hU_ hW_) rfl (Nat.le_of_ble_eq_true rfl) (q0 := 0) rfl rfl rfl [0, 1] [2, 3, 4, 5, 6, 7, 8, 9, 10] [9, 10, 0, 1, 2, 3, 4, 5, 6, 7, 8] ⟨rfl, rfl, rfl, rfl, rfl⟩ (fun _ => ⟨rfl, rfl⟩) dX1_readPerson_24 (fun r_8 u_ hr_7 => ?_)
  subst hr_7
  refine xpop h0 dX1_readPerson_27 rfl ?_
  refine xaload_n h0 3 dX1_readPerson_28 rfl rfl ?_
  refine xiconst (v := (nI 1)) h0 dX1_readPerson_29 (by decide) ?_
  refine xcallV_i (nn := 1) (w2 := fun u_ => ([(l0, .inr (1, [.ref l1, .int (nI sl), .int (nI ((numT G sl 1 (oneT G sl (strN 3) (numT G sl 3 (oneT G sl (strN 2) (oneT G sl (strN 1) σ))))).1)), .int (nI ((numT G sl 1 (oneT G sl (strN 3) (numT G sl 3 (oneT G sl (strN 2) (oneT G sl (strN 1) σ))))).2))])), (l1, .inl (cC, 64, .inl (fun i_ => nI (G i_))))] ++ (wTown cI a T k mu tm dy))) (wr := [(a 0, .inr (3, [.ref (a 1), .ref (a 2), .ref (a 3), .ref (a 4), .ref (a 5), .ref (a 6), .ref (a 7), .ref (a 8), .int (nI (T 5 0)), .int (nI (T 5 1)), .int (nI k), .int (nI tm), .int (nI dy)])), (a 1, .inl (cI, 8, .inl (fun i_ => nI (T 0 i_)))), (a 2, .inl (cI, 8, .inl (fun i_ => nI (T 1 i_)))), (a 3, .inl (cI, 8, .inl (fun i_ => nI (T 2 i_)))), (a 4, .inl (cI, 8, .inl (fun i_ => nI (T 3 i_)))), (a 5, .inl (cI, 8, .inl (fun i_ => nI (mtS T i_)))), (a 6, .inl (cI, 8, .inl (fun i_ => nI (rcS T mu i_)))), (a 7, .inl (cI, 8, .inl (fun i_ => nI (bkS T i_)))), (a 8, .inl (cI, 64, .inl (fun i_ => nI (T 4 i_))))]) (rest := []) h0 (c_X1_number (xL κ) D cI cC z0 aK aV l0 l1 G sl (oneT G sl (strN 3) (numT G sl 3 (oneT G sl (strN 2) (oneT G sl (strN 1) σ)))) 1 hz0 hz1 hsl hG (oneT_le (numT_le (oneT_le (oneT_le hσ)))) oneT_b (by omega) (by omega)) gX1_readPerson_X1_number (by decide +kernel) rfl rfl rfl ⟨Nat.le_of_ble_eq_true rfl, Nat.le_of_ble_eq_true rfl⟩ ⟨by decide, by decide⟩ xES_bl (fun _ _ _ hS_ _ hU_ hW_ => xES_keep hE hAz hS_ hU_ hW_) rfl (Nat.le_of_ble_eq_true rfl) (q0 := 0) rfl rfl rfl [0, 1] [2, 3, 4, 5, 6, 7, 8, 9, 10] [9, 10, 0, 1, 2, 3, 4, 5, 6, 7, 8] ⟨rfl, rfl, rfl, rfl, rfl⟩ (fun _ => ⟨rfl, rfl⟩) dX1_readPerson_30 (fun r_10 u_ hr_9 => ?_)
  subst hr_9
  refine xistore (lv' := [(5, .int (numI G sl 1 (oneT G sl (strN 3) (numT G sl 3 (oneT G sl (strN 2) (oneT G sl (strN 1) σ)))))), (4, .int (numI G sl 3 (oneT G sl (strN 2) (oneT G sl (strN 1) σ)))), (3, .int (oI (oneS G sl (strN 2) (oneT G sl (strN 1) σ)))), (2, .int (oI (oneS G sl (strN 1) σ))), (0, .ref l0), (1, .ref (a 0))]) h0 dX1_readPerson_33 (by decide) rfl ?_
  refine xaload_n h0 4 dX1_readPerson_35 rfl rfl ?_
  refine xldcS h0 hE rfl 4 (by decide) (ix := 56) rfl dX1_readPerson_36 ?_
  refine xcallV_i (nn := 1) (w2 := fun u_ => ([(l0, .inr (1, [.ref l1, .int (nI sl), .int (nI ((oneT G sl (strN 4) (numT G sl 1 (oneT G sl (strN 3) (numT G sl 3 (oneT G sl (strN 2) (oneT G sl (strN 1) σ)))))).1)), .int (nI ((oneT G sl (strN 4) (numT G sl 1 (oneT G sl (strN 3) (numT G sl 3 (oneT G sl (strN 2) (oneT G sl (strN 1) σ)))))).2))])), (l1, .inl (cC, 64, .inl (fun i_ => nI (G i_))))] ++ (wTown cI a T k mu tm dy))) (wr := [(a 0, .inr (3, [.ref (a 1), .ref (a 2), .ref (a 3), .ref (a 4), .ref (a 5), .ref (a 6), .ref (a 7), .ref (a 8), .int (nI (T 5 0)), .int (nI (T 5 1)), .int (nI k), .int (nI tm), .int (nI dy)])), (a 1, .inl (cI, 8, .inl (fun i_ => nI (T 0 i_)))), (a 2, .inl (cI, 8, .inl (fun i_ => nI (T 1 i_)))), (a 3, .inl (cI, 8, .inl (fun i_ => nI (T 2 i_)))), (a 4, .inl (cI, 8, .inl (fun i_ => nI (T 3 i_)))), (a 5, .inl (cI, 8, .inl (fun i_ => nI (mtS T i_)))), (a 6, .inl (cI, 8, .inl (fun i_ => nI (rcS T mu i_)))), (a 7, .inl (cI, 8, .inl (fun i_ => nI (bkS T i_)))), (a 8, .inl (cI, 64, .inl (fun i_ => nI (T 4 i_))))]) (rest := []) h0 (c_X1_oneOf (xL κ) D cI cC z0 aK aV l0 l1 G sl (numT G sl 1 (oneT G sl (strN 3) (numT G sl 3 (oneT G sl (strN 2) (oneT G sl (strN 1) σ))))) 4 hz0 hz1 hsl hG (numT_le (oneT_le (numT_le (oneT_le (oneT_le hσ))))) numT_b (by omega)) gX1_readPerson_X1_oneOf (by decide +kernel) rfl rfl rfl ⟨Nat.le_of_ble_eq_true rfl, Nat.le_of_ble_eq_true rfl⟩ ⟨by decide, by decide⟩ xES_bl (fun _ _ _ hS_ _ hU_ hW_ => xES_keep hE hAz hS_ hU_ hW_) rfl (Nat.le_of_ble_eq_true rfl) (q0 := 0) rfl rfl rfl [0, 1] [2, 3, 4, 5, 6, 7, 8, 9, 10] [9, 10, 0, 1, 2, 3, 4, 5, 6, 7, 8] ⟨rfl, rfl, rfl, rfl, rfl⟩ (fun _ => ⟨rfl, rfl⟩) dX1_readPerson_38 (fun r_12 u_ hr_11 => ?_)
  subst hr_11
  refine xpop h0 dX1_readPerson_41 rfl ?_
  refine xaload_n h0 4 dX1_readPerson_42 rfl rfl ?_
  refine xget (C := RX1) (T := TX1) (N := 4) (ci := 1) (v := .int (nI ((oneT G sl (strN 4) (numT G sl 1 (oneT G sl (strN 3) (numT G sl 3 (oneT G sl (strN 2) (oneT G sl (strN 1) σ)))))).2))) h0 hiX1 0 rfl rfl 3 (by decide) (List.mem_of_getElem? (i := 1) rfl) rfl dX1_readPerson_43 ?_
  refine xnif_ne (tgt := 66) h0 dX1_readPerson_46 (by decide) (by first | omega | exact b01 oneT_b | exact b01 numT_b) (fun c_13 => ?_) (fun c_13 => ?_)
  · skip
    have hk0 : ¬ (oneT G sl (strN 4) (numT G sl 1 (oneT G sl (strN 3) (numT G sl 3 (oneT G sl (strN 2) (oneT G sl (strN 1) σ)))))).2 = 0 := Nat.pos_iff_ne_zero.mp c_13
    refine xiconst (v := (nI 0)) h0 dX1_readPerson_66 (by decide) ?_
    exact xzret h0 dX1_readPerson_67 nar_n0 () (by exact (bI_f (by first | exact ⟨hk0, by assumption⟩ | exact fun z => hk0 z.1 | exact fun z => absurd z.2 (by assumption))).symm) (by first | (rw [sel_n hk0]; first | done | rfl) | (rw [hk0, sel_0]; first | done | rfl) | (rw [sel, if_pos hk0]; first | done | rfl))
  · skip
    have hk0 : (oneT G sl (strN 4) (numT G sl 1 (oneT G sl (strN 3) (numT G sl 3 (oneT G sl (strN 2) (oneT G sl (strN 1) σ)))))).2 = 0 := c_13
    obtain ⟨_, ⟨qa, hqa⟩, ⟨qs, hqs⟩, hqk, hqi, _, _⟩ := per_0 hk0
    refine xlvE (lv' := [(5, .int (numI G sl 1 (oneT G sl (strN 3) (numT G sl 3 (oneT G sl (strN 2) (oneT G sl (strN 1) σ)))))), (4, .int (numI G sl 3 (oneT G sl (strN 2) (oneT G sl (strN 1) σ)))), (3, .int (oI (oneS G sl (strN 2) (oneT G sl (strN 1) σ)))), (2, .int (nI ((oneS G sl (strN 1) σ).getD 0))), (0, .ref l0), (1, .ref (a 0))]) (by rw [oI_q hqa]) ?_
    refine xlvE (lv' := [(5, .int (numI G sl 1 (oneT G sl (strN 3) (numT G sl 3 (oneT G sl (strN 2) (oneT G sl (strN 1) σ)))))), (4, .int (numI G sl 3 (oneT G sl (strN 2) (oneT G sl (strN 1) σ)))), (3, .int (nI ((oneS G sl (strN 2) (oneT G sl (strN 1) σ)).getD 0))), (2, .int (nI ((oneS G sl (strN 1) σ).getD 0))), (0, .ref l0), (1, .ref (a 0))]) (by rw [oI_q hqs]) ?_
    refine xlvE (lv' := [(5, .int (numI G sl 1 (oneT G sl (strN 3) (numT G sl 3 (oneT G sl (strN 2) (oneT G sl (strN 1) σ)))))), (4, .int (nI (numV G sl 3 (oneT G sl (strN 2) (oneT G sl (strN 1) σ))))), (3, .int (nI ((oneS G sl (strN 2) (oneT G sl (strN 1) σ)).getD 0))), (2, .int (nI ((oneS G sl (strN 1) σ).getD 0))), (0, .ref l0), (1, .ref (a 0))]) (by rw [hqk]) ?_
    refine xlvE (lv' := [(5, .int (nI (numV G sl 1 (oneT G sl (strN 3) (numT G sl 3 (oneT G sl (strN 2) (oneT G sl (strN 1) σ))))))), (4, .int (nI (numV G sl 3 (oneT G sl (strN 2) (oneT G sl (strN 1) σ))))), (3, .int (nI ((oneS G sl (strN 2) (oneT G sl (strN 1) σ)).getD 0))), (2, .int (nI ((oneS G sl (strN 1) σ).getD 0))), (0, .ref l0), (1, .ref (a 0))]) (by rw [hqi]) ?_
    refine xaload_n h0 5 dX1_readPerson_49 rfl rfl ?_
    refine xiload_n h0 3 dX1_readPerson_50 rfl rfl ?_
    refine xiload_n h0 2 dX1_readPerson_51 rfl rfl ?_
    refine xiload h0 1 dX1_readPerson_52 rfl ?_
    refine xiload h0 0 dX1_readPerson_54 rfl ?_
    refine xcallV_i (nn := 4) (w2 := fun u_ => ([(l0, .inr (1, [.ref l1, .int (nI sl), .int (nI ((oneT G sl (strN 4) (numT G sl 1 (oneT G sl (strN 3) (numT G sl 3 (oneT G sl (strN 2) (oneT G sl (strN 1) σ)))))).1)), .int (nI ((oneT G sl (strN 4) (numT G sl 1 (oneT G sl (strN 3) (numT G sl 3 (oneT G sl (strN 2) (oneT G sl (strN 1) σ)))))).2))])), (l1, .inl (cC, 64, .inl (fun i_ => nI (G i_))))] ++ (wTown cI a (addT T ((oneS G sl (strN 1) σ).getD 0) ((oneS G sl (strN 2) (oneT G sl (strN 1) σ)).getD 0) (numV G sl 3 (oneT G sl (strN 2) (oneT G sl (strN 1) σ))) (numV G sl 1 (oneT G sl (strN 3) (numT G sl 3 (oneT G sl (strN 2) (oneT G sl (strN 1) σ)))))) k mu tm dy))) (wr := [(l0, .inr (1, [.ref l1, .int (nI sl), .int (nI ((oneT G sl (strN 4) (numT G sl 1 (oneT G sl (strN 3) (numT G sl 3 (oneT G sl (strN 2) (oneT G sl (strN 1) σ)))))).1)), .int (nI ((oneT G sl (strN 4) (numT G sl 1 (oneT G sl (strN 3) (numT G sl 3 (oneT G sl (strN 2) (oneT G sl (strN 1) σ)))))).2))])), (l1, .inl (cC, 64, .inl (fun i_ => nI (G i_))))]) (rest := []) h0 (c_X3_addPerson (xL κ) D cI cC a T k mu tm dy ((oneS G sl (strN 1) σ).getD 0) ((oneS G sl (strN 2) (oneT G sl (strN 1) σ)).getD 0) (numV G sl 3 (oneT G sl (strN 2) (oneT G sl (strN 1) σ))) (numV G sl 1 (oneT G sl (strN 3) (numT G sl 3 (oneT G sl (strN 2) (oneT G sl (strN 1) σ))))) (by exact hn) (by first | (exact Nat.lt_trans (numV_lt (by decide)) (by decide)) | omega) (by first | (exact Nat.lt_trans (numV_lt (by decide)) (by decide)) | omega) (by intro p; have := hT.2.2.2.2.2.1 p; omega)) gX1_readPerson_X3_addPerson (by decide +kernel) rfl rfl rfl ⟨Nat.le_of_ble_eq_true rfl, Nat.le_of_ble_eq_true rfl⟩ ⟨by decide, by decide⟩ (fun _ _ _ _ h => h) (fun _ _ _ _ _ _ _ => trivial) rfl (Nat.le_of_ble_eq_true rfl) (q0 := 0) rfl rfl rfl [2, 3, 4, 5, 6, 7, 8, 9, 10] [0, 1] [0, 1, 2, 3, 4, 5, 6, 7, 8, 9, 10] ⟨rfl, rfl, rfl, rfl, rfl⟩ (fun _ => ⟨rfl, rfl⟩) dX1_readPerson_56 (fun r_15 u_ hr_14 => ?_)
    subst hr_14
    refine xbif_eq (tgt := 66) h0 dX1_readPerson_59 (by decide)  (fun c_16 => ?_) (fun c_16 => ?_)
    · skip
      refine xiconst (v := (nI 0)) h0 dX1_readPerson_66 (by decide) ?_
      exact xzret h0 dX1_readPerson_67 nar_n0 () (by exact (bI_f (by first | exact ⟨hk0, by assumption⟩ | exact fun z => hk0 z.1 | exact fun z => absurd z.2 (by assumption))).symm) (by first | (rw [sel_n hk0]; first | done | rfl) | (rw [hk0, sel_0]; first | done | rfl) | (rw [sel, if_pos hk0]; first | done | rfl))
    · skip
      refine xiconst (v := (nI 1)) h0 dX1_readPerson_62 (by decide) ?_
      refine xgoto (tgt := 67) h0 dX1_readPerson_63 (by decide) ?_
      exact xzret h0 dX1_readPerson_67 nar_n1 () (by exact (bI_t (by first | exact ⟨hk0, by assumption⟩ | exact fun z => hk0 z.1 | exact fun z => absurd z.2 (by assumption))).symm) (by first | (rw [sel_n hk0]; first | done | rfl) | (rw [hk0, sel_0]; first | done | rfl) | (rw [sel, if_pos hk0]; first | done | rfl))
set_option maxHeartbeats 4000000 in
set_option maxRecDepth 100000 in
theorem c_X1_readStatement (l : Launch) (D : va_G) (cI cC : ClassId) (z0 : Nat) (aK aV : Nat → Nat) (l0 l1 : Nat) (G : Nat → Nat) (sl : Nat) (σ : Nat × Nat) (a : Nat → Nat) (T : TT) (k mu tm dy : Nat) (hz0 : z0 ≤ l0) (hz1 : z0 ≤ l1) (hsl : sl ≤ 64) (hG : ∀ j, G j < 256) (hσ : σ.1 ≤ sl) (hσb : σ.2 = 0 ∨ σ.2 = 1) (hza : ∀ i, i < 9 → z0 ≤ a i) (hT : TOK T) (hmu : 8 ≤ mu) : XMi l yX1_readStatement wsX1_readStatement ({ frames := 8, cells := 0, slots := 0, locals := 182 } : Room) D (xT cI cC) (xES z0 aK aV) ([(l0, .inr (1, [.ref l1, .int (nI sl), .int (nI σ.1), .int (nI σ.2)])), (l1, .inl (cC, 64, .inl (fun i_ => nI (G i_))))] ++ (wTown cI a T k mu tm dy)) [.ref l0, .ref (a 0)] (S := Unit) (fun r _ => r = bI ((srT G sl σ).2 = 0 ∧ fitD (T 5 0) (srS G sl σ) (srF G sl σ Z0F))) (fun _ => ([(l0, .inr (1, [.ref l1, .int (nI sl), .int (nI ((srT G sl σ).1)), .int (nI ((srT G sl σ).2))])), (l1, .inl (cC, 64, .inl (fun i_ => nI (G i_))))] ++ (wTown cI a (apS G sl T σ) k mu tm dy))) 0 0 := by
  refine xMetS_i (cc := cX1_readStatement) (nL := 2) (ret := some .boolean) ((List.forall_mem_cons.mpr ⟨hz0, (List.forall_mem_cons.mpr ⟨hz1, (List.forall_mem_cons.mpr ⟨(hza 0 (by decide)), (List.forall_mem_cons.mpr ⟨(hza 1 (by decide)), (List.forall_mem_cons.mpr ⟨(hza 2 (by decide)), (List.forall_mem_cons.mpr ⟨(hza 3 (by decide)), (List.forall_mem_cons.mpr ⟨(hza 4 (by decide)), (List.forall_mem_cons.mpr ⟨(hza 5 (by decide)), (List.forall_mem_cons.mpr ⟨(hza 6 (by decide)), (List.forall_mem_cons.mpr ⟨(hza 7 (by decide)), (List.forall_mem_cons.mpr ⟨(hza 8 (by decide)), (fun _ h => absurd h List.not_mem_nil)⟩)⟩)⟩)⟩)⟩)⟩)⟩)⟩)⟩)⟩)⟩)) (by decide +kernel) rfl (Nat.le_of_ble_eq_true rfl) (fun κ A h0 hn0 hE hAz => ?_)
  refine xlv (lv' := [(0, .ref l0), (1, .ref (a 0))]) [0, 1] rfl ?_
  refine xaload_n h0 0 dX1_readStatement_0 rfl rfl ?_
  refine xldcS h0 hE rfl 0 (by decide) (ix := 30) rfl dX1_readStatement_1 ?_
  refine xcallV_i (nn := 1) (w2 := fun u_ => ([(l0, .inr (1, [.ref l1, .int (nI sl), .int (nI ((oneT G sl (strN 0) σ).1)), .int (nI ((oneT G sl (strN 0) σ).2))])), (l1, .inl (cC, 64, .inl (fun i_ => nI (G i_))))] ++ (wTown cI a T k mu tm dy))) (wr := [(a 0, .inr (3, [.ref (a 1), .ref (a 2), .ref (a 3), .ref (a 4), .ref (a 5), .ref (a 6), .ref (a 7), .ref (a 8), .int (nI (T 5 0)), .int (nI (T 5 1)), .int (nI k), .int (nI tm), .int (nI dy)])), (a 1, .inl (cI, 8, .inl (fun i_ => nI (T 0 i_)))), (a 2, .inl (cI, 8, .inl (fun i_ => nI (T 1 i_)))), (a 3, .inl (cI, 8, .inl (fun i_ => nI (T 2 i_)))), (a 4, .inl (cI, 8, .inl (fun i_ => nI (T 3 i_)))), (a 5, .inl (cI, 8, .inl (fun i_ => nI (mtS T i_)))), (a 6, .inl (cI, 8, .inl (fun i_ => nI (rcS T mu i_)))), (a 7, .inl (cI, 8, .inl (fun i_ => nI (bkS T i_)))), (a 8, .inl (cI, 64, .inl (fun i_ => nI (T 4 i_))))]) (rest := []) h0 (c_X1_oneOf (xL κ) D cI cC z0 aK aV l0 l1 G sl σ 0 hz0 hz1 hsl hG hσ hσb (by omega)) gX1_readStatement_X1_oneOf (by decide +kernel) rfl rfl rfl ⟨Nat.le_of_ble_eq_true rfl, Nat.le_of_ble_eq_true rfl⟩ ⟨by decide, by decide⟩ xES_bl (fun _ _ _ hS_ _ hU_ hW_ => xES_keep hE hAz hS_ hU_ hW_) rfl (Nat.le_of_ble_eq_true rfl) (q0 := 0) rfl rfl rfl [0, 1] [2, 3, 4, 5, 6, 7, 8, 9, 10] [9, 10, 0, 1, 2, 3, 4, 5, 6, 7, 8] ⟨rfl, rfl, rfl, rfl, rfl⟩ (fun _ => ⟨rfl, rfl⟩) dX1_readStatement_3 (fun r_2 u_ hr_1 => ?_)
  subst hr_1
  rcases (Decidable.em ((oI (oneS G sl (strN 0) σ)) = nI 0)) with k_3 | k_3
  · skip
    refine xtabI (j := 0) (off := 30) (tgt := 36) h0 dX1_readStatement_6 k_3 (by decide) (by decide) rfl (by decide) ?_
    have hs : srS G sl σ = 0 := srS_k (by decide) k_3
    refine xaload_n h0 0 dX1_readStatement_36 rfl rfl ?_
    refine xaload_n h0 1 dX1_readStatement_37 rfl rfl ?_
    refine xcallV_i (nn := 1) (w2 := fun u_ => ([(l0, .inr (1, [.ref l1, .int (nI sl), .int (nI ((oneT G sl (strN 4) (numT G sl 1 (oneT G sl (strN 3) (numT G sl 3 (oneT G sl (strN 2) (oneT G sl (strN 1) (oneT G sl (strN 0) σ))))))).1)), .int (nI ((oneT G sl (strN 4) (numT G sl 1 (oneT G sl (strN 3) (numT G sl 3 (oneT G sl (strN 2) (oneT G sl (strN 1) (oneT G sl (strN 0) σ))))))).2))])), (l1, .inl (cC, 64, .inl (fun i_ => nI (G i_))))] ++ (wTown cI a (sel (oneT G sl (strN 4) (numT G sl 1 (oneT G sl (strN 3) (numT G sl 3 (oneT G sl (strN 2) (oneT G sl (strN 1) (oneT G sl (strN 0) σ))))))).2 (addT T ((oneS G sl (strN 1) (oneT G sl (strN 0) σ)).getD 0) ((oneS G sl (strN 2) (oneT G sl (strN 1) (oneT G sl (strN 0) σ))).getD 0) (numV G sl 3 (oneT G sl (strN 2) (oneT G sl (strN 1) (oneT G sl (strN 0) σ)))) (numV G sl 1 (oneT G sl (strN 3) (numT G sl 3 (oneT G sl (strN 2) (oneT G sl (strN 1) (oneT G sl (strN 0) σ))))))) T) k mu tm dy))) (wr := []) (rest := []) h0 (c_X1_readPerson (xL κ) D cI cC z0 aK aV l0 l1 G sl (oneT G sl (strN 0) σ) a T k mu tm dy  hz0 hz1 hsl hG (oneT_le hσ) oneT_b hza hT) gX1_readStatement_X1_readPerson (by decide +kernel) rfl rfl rfl ⟨Nat.le_of_ble_eq_true rfl, Nat.le_of_ble_eq_true rfl⟩ ⟨by decide, by decide⟩ xES_bl (fun _ _ _ hS_ _ hU_ hW_ => xES_keep hE hAz hS_ hU_ hW_) rfl (Nat.le_of_ble_eq_true rfl) (q0 := 0) rfl rfl rfl [0, 1, 2, 3, 4, 5, 6, 7, 8, 9, 10] [] [0, 1, 2, 3, 4, 5, 6, 7, 8, 9, 10] ⟨rfl, rfl, rfl, rfl, rfl⟩ (fun _ => ⟨rfl, rfl⟩) dX1_readStatement_38 (fun r_5 u_ hr_4 => ?_)
    subst hr_4
    exact xzret h0 dX1_readStatement_41 (bI_nar _) () (by exact bI_iff (cs_p hs)) (by first | (rw [srT_p hs, ← ap_p hs]; first | done | rfl) | (rw [srT_l hs, ← ap_l hs]; first | done | rfl) | (rw [srT_m (by rw [hs]; decide) (by rw [hs]; decide), ← ap_m (bo := 0) (by rw [hs]; decide) (by rw [hs]; decide) (by rw [hs]; decide)]; first | done | rfl) | (rw [srT_m (by rw [hs]; decide) (by rw [hs]; decide), ← ap_m (bo := 1) (by rw [hs]; decide) (by rw [hs]; decide) (by rw [hs]; decide)]; first | done | rfl) | (rw [hcd.2, show apS G sl T σ = T from if_neg hcd.1]; first | done | rfl))
  rcases (Decidable.em ((oI (oneS G sl (strN 0) σ)) = nI 1)) with k_6 | k_6
  · skip
    refine xtabI (j := 1) (off := 36) (tgt := 42) h0 dX1_readStatement_6 k_6 (by decide) (by decide) rfl (by decide) ?_
    have hs : srS G sl σ = 1 := srS_k (by decide) k_6
    refine xaload_n h0 0 dX1_readStatement_42 rfl rfl ?_
    refine xaload_n h0 1 dX1_readStatement_43 rfl rfl ?_
    refine xiconst (v := (nI 0)) h0 dX1_readStatement_44 (by decide) ?_
    refine xcallV_i (nn := 2) (w2 := fun u_ => ([(l0, .inr (1, [.ref l1, .int (nI sl), .int (nI ((oneT G sl (strN 4) (numT G sl 2 (oneT G sl (strN 3) (numT G sl 1 (numT G sl 1 (oneT G sl (strN 0) σ)))))).1)), .int (nI ((oneT G sl (strN 4) (numT G sl 2 (oneT G sl (strN 3) (numT G sl 1 (numT G sl 1 (oneT G sl (strN 0) σ)))))).2))])), (l1, .inl (cC, 64, .inl (fun i_ => nI (G i_))))] ++ (wTown cI a (sel (oneT G sl (strN 4) (numT G sl 2 (oneT G sl (strN 3) (numT G sl 1 (numT G sl 1 (oneT G sl (strN 0) σ)))))).2 (addM T (numV G sl 1 (oneT G sl (strN 0) σ)) (numV G sl 1 (numT G sl 1 (oneT G sl (strN 0) σ))) (numV G sl 2 (oneT G sl (strN 3) (numT G sl 1 (numT G sl 1 (oneT G sl (strN 0) σ))))) 0) T) k mu tm dy))) (wr := []) (rest := []) h0 (c_X1_readMinutes (xL κ) D cI cC z0 aK aV l0 l1 G sl (oneT G sl (strN 0) σ) a T k mu tm dy 0 hz0 hz1 hsl hG (oneT_le hσ) oneT_b hza hT (by omega) (by omega)) gX1_readStatement_X1_readMinutes (by decide +kernel) rfl rfl rfl ⟨Nat.le_of_ble_eq_true rfl, Nat.le_of_ble_eq_true rfl⟩ ⟨by decide, by decide⟩ xES_bl (fun _ _ _ hS_ _ hU_ hW_ => xES_keep hE hAz hS_ hU_ hW_) rfl (Nat.le_of_ble_eq_true rfl) (q0 := 0) rfl rfl rfl [0, 1, 2, 3, 4, 5, 6, 7, 8, 9, 10] [] [0, 1, 2, 3, 4, 5, 6, 7, 8, 9, 10] ⟨rfl, rfl, rfl, rfl, rfl⟩ (fun _ => ⟨rfl, rfl⟩) dX1_readStatement_45 (fun r_8 u_ hr_7 => ?_)
    subst hr_7
    exact xzret h0 dX1_readStatement_48 (bI_nar _) () (by exact bI_iff (cs_m (by rw [hs]; decide) (by rw [hs]; decide))) (by first | (rw [srT_p hs, ← ap_p hs]; first | done | rfl) | (rw [srT_l hs, ← ap_l hs]; first | done | rfl) | (rw [srT_m (by rw [hs]; decide) (by rw [hs]; decide), ← ap_m (bo := 0) (by rw [hs]; decide) (by rw [hs]; decide) (by rw [hs]; decide)]; first | done | rfl) | (rw [srT_m (by rw [hs]; decide) (by rw [hs]; decide), ← ap_m (bo := 1) (by rw [hs]; decide) (by rw [hs]; decide) (by rw [hs]; decide)]; first | done | rfl) | (rw [hcd.2, show apS G sl T σ = T from if_neg hcd.1]; first | done | rfl))
  rcases (Decidable.em ((oI (oneS G sl (strN 0) σ)) = nI 2)) with k_9 | k_9
  · skip
    refine xtabI (j := 2) (off := 43) (tgt := 49) h0 dX1_readStatement_6 k_9 (by decide) (by decide) rfl (by decide) ?_
    have hs : srS G sl σ = 2 := srS_k (by decide) k_9
    refine xaload_n h0 0 dX1_readStatement_49 rfl rfl ?_
    refine xaload_n h0 1 dX1_readStatement_50 rfl rfl ?_
    refine xiconst (v := (nI 1)) h0 dX1_readStatement_51 (by decide) ?_
    refine xcallV_i (nn := 2) (w2 := fun u_ => ([(l0, .inr (1, [.ref l1, .int (nI sl), .int (nI ((oneT G sl (strN 4) (numT G sl 2 (oneT G sl (strN 3) (numT G sl 1 (numT G sl 1 (oneT G sl (strN 0) σ)))))).1)), .int (nI ((oneT G sl (strN 4) (numT G sl 2 (oneT G sl (strN 3) (numT G sl 1 (numT G sl 1 (oneT G sl (strN 0) σ)))))).2))])), (l1, .inl (cC, 64, .inl (fun i_ => nI (G i_))))] ++ (wTown cI a (sel (oneT G sl (strN 4) (numT G sl 2 (oneT G sl (strN 3) (numT G sl 1 (numT G sl 1 (oneT G sl (strN 0) σ)))))).2 (addM T (numV G sl 1 (oneT G sl (strN 0) σ)) (numV G sl 1 (numT G sl 1 (oneT G sl (strN 0) σ))) (numV G sl 2 (oneT G sl (strN 3) (numT G sl 1 (numT G sl 1 (oneT G sl (strN 0) σ))))) 1) T) k mu tm dy))) (wr := []) (rest := []) h0 (c_X1_readMinutes (xL κ) D cI cC z0 aK aV l0 l1 G sl (oneT G sl (strN 0) σ) a T k mu tm dy 1 hz0 hz1 hsl hG (oneT_le hσ) oneT_b hza hT (by omega) (by omega)) gX1_readStatement_X1_readMinutes (by decide +kernel) rfl rfl rfl ⟨Nat.le_of_ble_eq_true rfl, Nat.le_of_ble_eq_true rfl⟩ ⟨by decide, by decide⟩ xES_bl (fun _ _ _ hS_ _ hU_ hW_ => xES_keep hE hAz hS_ hU_ hW_) rfl (Nat.le_of_ble_eq_true rfl) (q0 := 0) rfl rfl rfl [0, 1, 2, 3, 4, 5, 6, 7, 8, 9, 10] [] [0, 1, 2, 3, 4, 5, 6, 7, 8, 9, 10] ⟨rfl, rfl, rfl, rfl, rfl⟩ (fun _ => ⟨rfl, rfl⟩) dX1_readStatement_52 (fun r_11 u_ hr_10 => ?_)
    subst hr_10
    exact xzret h0 dX1_readStatement_55 (bI_nar _) () (by exact bI_iff (cs_m (by rw [hs]; decide) (by rw [hs]; decide))) (by first | (rw [srT_p hs, ← ap_p hs]; first | done | rfl) | (rw [srT_l hs, ← ap_l hs]; first | done | rfl) | (rw [srT_m (by rw [hs]; decide) (by rw [hs]; decide), ← ap_m (bo := 0) (by rw [hs]; decide) (by rw [hs]; decide) (by rw [hs]; decide)]; first | done | rfl) | (rw [srT_m (by rw [hs]; decide) (by rw [hs]; decide), ← ap_m (bo := 1) (by rw [hs]; decide) (by rw [hs]; decide) (by rw [hs]; decide)]; first | done | rfl) | (rw [hcd.2, show apS G sl T σ = T from if_neg hcd.1]; first | done | rfl))
  rcases (Decidable.em ((oI (oneS G sl (strN 0) σ)) = nI 3)) with k_12 | k_12
  · skip
    refine xtabI (j := 3) (off := 50) (tgt := 56) h0 dX1_readStatement_6 k_12 (by decide) (by decide) rfl (by decide) ?_
    have hs : srS G sl σ = 3 := srS_k (by decide) k_12
    refine xaload_n h0 0 dX1_readStatement_56 rfl rfl ?_
    refine xaload_n h0 1 dX1_readStatement_57 rfl rfl ?_
    refine xcallV_i (nn := 1) (w2 := fun u_ => ([(l0, .inr (1, [.ref l1, .int (nI sl), .int (nI ((oneT G sl (strN 4) (numT G sl 1 (oneT G sl (strN 0) σ))).1)), .int (nI ((oneT G sl (strN 4) (numT G sl 1 (oneT G sl (strN 0) σ))).2))])), (l1, .inl (cC, 64, .inl (fun i_ => nI (G i_))))] ++ (wTown cI a (sel (oneT G sl (strN 4) (numT G sl 1 (oneT G sl (strN 0) σ))).2 (setL T (numV G sl 1 (oneT G sl (strN 0) σ))) T) k mu tm dy))) (wr := []) (rest := []) h0 (c_X1_readLaw (xL κ) D cI cC z0 aK aV l0 l1 G sl (oneT G sl (strN 0) σ) a T k mu tm dy  hz0 hz1 hsl hG (oneT_le hσ) oneT_b hza hT) gX1_readStatement_X1_readLaw (by decide +kernel) rfl rfl rfl ⟨Nat.le_of_ble_eq_true rfl, Nat.le_of_ble_eq_true rfl⟩ ⟨by decide, by decide⟩ xES_bl (fun _ _ _ hS_ _ hU_ hW_ => xES_keep hE hAz hS_ hU_ hW_) rfl (Nat.le_of_ble_eq_true rfl) (q0 := 0) rfl rfl rfl [0, 1, 2, 3, 4, 5, 6, 7, 8, 9, 10] [] [0, 1, 2, 3, 4, 5, 6, 7, 8, 9, 10] ⟨rfl, rfl, rfl, rfl, rfl⟩ (fun _ => ⟨rfl, rfl⟩) dX1_readStatement_58 (fun r_14 u_ hr_13 => ?_)
    subst hr_13
    exact xzret h0 dX1_readStatement_61 (bI_nar _) () (by exact bI_iff (cs_l hs)) (by first | (rw [srT_p hs, ← ap_p hs]; first | done | rfl) | (rw [srT_l hs, ← ap_l hs]; first | done | rfl) | (rw [srT_m (by rw [hs]; decide) (by rw [hs]; decide), ← ap_m (bo := 0) (by rw [hs]; decide) (by rw [hs]; decide) (by rw [hs]; decide)]; first | done | rfl) | (rw [srT_m (by rw [hs]; decide) (by rw [hs]; decide), ← ap_m (bo := 1) (by rw [hs]; decide) (by rw [hs]; decide) (by rw [hs]; decide)]; first | done | rfl) | (rw [hcd.2, show apS G sl T σ = T from if_neg hcd.1]; first | done | rfl))
  · skip
    refine xtabIo (tgt := 62) h0 dX1_readStatement_6 (by have e0 := lv_neT (a := 0) k_3 (by decide); have e1 := lv_neT (a := 1) k_6 (by decide); have e2 := lv_neT (a := 2) k_9 (by decide); have e3 := lv_neT (a := 3) k_12 (by decide); omega) (by decide) ?_
    have hd := srS_d k_3 k_6 k_9 k_12
    have hcd := cs_d (n := T 5 0) hd
    refine xiconst (v := (nI 0)) h0 dX1_readStatement_62 (by decide) ?_
    exact xzret h0 dX1_readStatement_63 nar_n0 () (by exact (bI_f hcd.1).symm) (by first | (rw [srT_p hs, ← ap_p hs]; first | done | rfl) | (rw [srT_l hs, ← ap_l hs]; first | done | rfl) | (rw [srT_m (by rw [hs]; decide) (by rw [hs]; decide), ← ap_m (bo := 0) (by rw [hs]; decide) (by rw [hs]; decide) (by rw [hs]; decide)]; first | done | rfl) | (rw [srT_m (by rw [hs]; decide) (by rw [hs]; decide), ← ap_m (bo := 1) (by rw [hs]; decide) (by rw [hs]; decide) (by rw [hs]; decide)]; first | done | rfl) | (rw [hcd.2, show apS G sl T σ = T from if_neg hcd.1]; first | done | rfl))
set_option maxHeartbeats 4000000 in
set_option maxRecDepth 100000 in
theorem c_X1_readInto (l : Launch) (D : va_G) (cI cC : ClassId) (z0 : Nat) (aK aV : Nat → Nat) (l0 l1 : Nat) (G : Nat → Nat) (sl sp ss : Nat) (a : Nat → Nat) (T : TT) (k mu tm dy : Nat) (hz0 : z0 ≤ l0) (hz1 : z0 ≤ l1) (hsl : sl ≤ 64) (hG : ∀ j, G j < 256) (hza : ∀ i, i < 9 → z0 ≤ a i) (hT : TOK T) (hmu : 8 ≤ mu) : XMi l yX1_readInto wsX1_readInto ({ frames := 9, cells := 0, slots := 0, locals := 203 } : Room) D (xT cI cC) (xES z0 aK aV) ([(l0, .inr (1, [.ref l1, .int (nI sl), .int (nI sp), .int (nI ss)])), (l1, .inl (cC, 64, .inl (fun i_ => nI (G i_))))] ++ (wTown cI a T k mu tm dy)) [.ref l0, .ref (a 0)] (S := Unit) (fun r _ => r = ansC (rdC G sl 65 T 0 none 0)) (fun _ => ([(l0, .inr (1, [.ref l1, .int (nI sl), .int (nI ((rdC G sl 65 T 0 none 0).1.1)), .int (nI ((rdC G sl 65 T 0 none 0).1.2))])), (l1, .inl (cC, 64, .inl (fun i_ => nI (G i_))))] ++ (wTown cI a ((rdC G sl 65 T 0 none 0).2.2.2) k mu tm dy))) 0 0 := by
  refine xMetS_i (cc := cX1_readInto) (nL := 6) (ret := some .int) ((List.forall_mem_cons.mpr ⟨hz0, (List.forall_mem_cons.mpr ⟨hz1, (List.forall_mem_cons.mpr ⟨(hza 0 (by decide)), (List.forall_mem_cons.mpr ⟨(hza 1 (by decide)), (List.forall_mem_cons.mpr ⟨(hza 2 (by decide)), (List.forall_mem_cons.mpr ⟨(hza 3 (by decide)), (List.forall_mem_cons.mpr ⟨(hza 4 (by decide)), (List.forall_mem_cons.mpr ⟨(hza 5 (by decide)), (List.forall_mem_cons.mpr ⟨(hza 6 (by decide)), (List.forall_mem_cons.mpr ⟨(hza 7 (by decide)), (List.forall_mem_cons.mpr ⟨(hza 8 (by decide)), (fun _ h => absurd h List.not_mem_nil)⟩)⟩)⟩)⟩)⟩)⟩)⟩)⟩)⟩)⟩)⟩)) (by decide +kernel) rfl (Nat.le_of_ble_eq_true rfl) (fun κ A h0 hn0 hE hAz => ?_)
  have hiX1 : ∀ w ∈ u_ws RX1 TX1 4, w ∈ wsX1_readInto := by decide +kernel
  refine xlv (lv' := [(0, .ref l0), (1, .ref (a 0))]) [0, 1] rfl ?_
  refine xaload_n h0 0 dX1_readInto_0 rfl rfl ?_
  refine xiconst (v := (nI 0)) h0 dX1_readInto_1 (by decide) ?_
  refine xput (ws' := ([(l0, .inr (1, [.ref l1, .int (nI sl), .int (nI 0), .int (nI ss)])), (l1, .inl (cC, 64, .inl (fun i_ => nI (G i_))))] ++ (wTown cI a T k mu tm dy))) (C := RX1) (T := TX1) (N := 4) (ci := 1) (ty := tyX1 2) h0 hiX1 tyX1 tyX1_ok nmX1 0 rfl rfl 2 (by decide) (List.mem_of_getElem? (i := 1) rfl) rfl (by decide +kernel) (rfl) (rfl) (Nat.le_of_ble_eq_true rfl) dX1_readInto_2 rfl ?_
  refine xaload_n h0 0 dX1_readInto_5 rfl rfl ?_
  refine xiconst (v := (nI 0)) h0 dX1_readInto_6 (by decide) ?_
  refine xput (ws' := ([(l0, .inr (1, [.ref l1, .int (nI sl), .int (nI 0), .int (nI 0)])), (l1, .inl (cC, 64, .inl (fun i_ => nI (G i_))))] ++ (wTown cI a T k mu tm dy))) (C := RX1) (T := TX1) (N := 4) (ci := 1) (ty := tyX1 3) h0 hiX1 tyX1 tyX1_ok nmX1 0 rfl rfl 3 (by decide) (List.mem_of_getElem? (i := 2) rfl) rfl (by decide +kernel) (rfl) (rfl) (Nat.le_of_ble_eq_true rfl) dX1_readInto_7 rfl ?_
  refine xiconst (v := (-1)) h0 dX1_readInto_10 (by decide) ?_
  refine xistore_n (lv' := [(2, .int (-1)), (0, .ref l0), (1, .ref (a 0))]) h0 dX1_readInto_11 rfl (by decide) rfl ?_
  refine xiconst (v := (nI 0)) h0 dX1_readInto_12 (by decide) ?_
  refine xistore_n (lv' := [(3, .int (nI 0)), (2, .int (-1)), (0, .ref l0), (1, .ref (a 0))]) h0 dX1_readInto_13 rfl (by decide) rfl ?_
  have lp : ∀ (d_ : Nat) (p n : Nat) (u : Option Nat) (M : TT), (66 - p ≤ d_) → (p ≤ sl) → (n ≤ p) → (∀ z, u = some z → z ≤ 64) → (TOK M) → (rdC G sl (65 - n) M p u n = rdC G sl 65 T 0 none 0) → XG κ 6 D (xT cI cC) A (xQi (S := Unit) κ D (xT cI cC) A (fun r _ => r = ansC (rdC G sl 65 T 0 none 0)) (fun _ => ([(l0, .inr (1, [.ref l1, .int (nI sl), .int (nI ((rdC G sl 65 T 0 none 0).1.1)), .int (nI ((rdC G sl 65 T 0 none 0).1.2))])), (l1, .inl (cC, 64, .inl (fun i_ => nI (G i_))))] ++ (wTown cI a ((rdC G sl 65 T 0 none 0).2.2.2) k mu tm dy))) 0 0) ([(l0, .inr (1, [.ref l1, .int (nI sl), .int (nI p), .int (nI 0)])), (l1, .inl (cC, 64, .inl (fun i_ => nI (G i_))))] ++ (wTown cI a M k mu tm dy)) 0 0 14 [(0, .ref l0), (1, .ref (a 0)), (2, .int (oI u)), (3, .int (nI n))] [] := by
    intro d_
    induction d_ with
    | zero => intro p n u M hm_ hp hnp hu hM hf; exact absurd hm_ (by omega)
    | succ d_ ih_lp =>
      intro p n u M hm_ hp hnp hu hM hf
      refine xaload_n h0 0 dX1_readInto_14 rfl rfl ?_
      refine xget (C := RX1) (T := TX1) (N := 4) (ci := 1) (v := .int (nI p)) h0 hiX1 0 rfl rfl 2 (by decide) (List.mem_of_getElem? (i := 1) rfl) rfl dX1_readInto_15 ?_
      refine xistore (lv' := [(4, .int (nI p)), (0, .ref l0), (1, .ref (a 0)), (2, .int (oI u)), (3, .int (nI n))]) h0 dX1_readInto_18 (by decide) rfl ?_
      refine xaload_n h0 1 dX1_readInto_20 rfl rfl ?_
      refine xaload_n h0 2 dX1_readInto_21 rfl rfl ?_
      refine xcallV_i (nn := 1) (w2 := fun u_ => ([(l0, .inr (1, [.ref l1, .int (nI sl), .int (nI ((srT G sl (p, 0)).1)), .int (nI ((srT G sl (p, 0)).2))])), (l1, .inl (cC, 64, .inl (fun i_ => nI (G i_))))] ++ (wTown cI a (apS G sl M (p, 0)) k mu tm dy))) (wr := []) (rest := []) h0 (c_X1_readStatement (xL κ) D cI cC z0 aK aV l0 l1 G sl (p, 0) a M k mu tm dy  hz0 hz1 hsl hG (by omega) (Or.inl rfl) hza hM hmu) gX1_readInto_X1_readStatement (by decide +kernel) rfl rfl rfl ⟨Nat.le_of_ble_eq_true rfl, Nat.le_of_ble_eq_true rfl⟩ ⟨by decide, by decide⟩ xES_bl (fun _ _ _ hS_ _ hU_ hW_ => xES_keep hE hAz hS_ hU_ hW_) rfl (Nat.le_of_ble_eq_true rfl) (q0 := 0) rfl rfl rfl [0, 1, 2, 3, 4, 5, 6, 7, 8, 9, 10] [] [0, 1, 2, 3, 4, 5, 6, 7, 8, 9, 10] ⟨rfl, rfl, rfl, rfl, rfl⟩ (fun _ => ⟨rfl, rfl⟩) dX1_readInto_22 (fun r_2 u_ hr_1 => ?_)
      subst hr_1
      have jn : ∀ (u2 : Int32), (u2 = oI (unC G sl M p u)) → XG κ 6 D (xT cI cC) A (xQi (S := Unit) κ D (xT cI cC) A (fun r _ => r = ansC (rdC G sl 65 T 0 none 0)) (fun _ => ([(l0, .inr (1, [.ref l1, .int (nI sl), .int (nI ((rdC G sl 65 T 0 none 0).1.1)), .int (nI ((rdC G sl 65 T 0 none 0).1.2))])), (l1, .inl (cC, 64, .inl (fun i_ => nI (G i_))))] ++ (wTown cI a ((rdC G sl 65 T 0 none 0).2.2.2) k mu tm dy))) 0 0) ([(l0, .inr (1, [.ref l1, .int (nI sl), .int (nI ((srT G sl (p, 0)).1)), .int (nI ((srT G sl (p, 0)).2))])), (l1, .inl (cC, 64, .inl (fun i_ => nI (G i_))))] ++ (wTown cI a (apS G sl M (p, 0)) k mu tm dy)) 0 0 39 [(0, .ref l0), (1, .ref (a 0)), (2, .int u2), (3, .int (nI n))] [] := by
        intro u2 hu2_
        subst hu2_
        have hu2 : ∀ z, unC G sl M p u = some z → z ≤ 64 := fun z hz => un_le hu (by omega) hz
        refine xiinc (v := (nI (n + 1))) (lv' := [(3, .int (nI (n + 1))), (0, .ref l0), (1, .ref (a 0)), (2, .int (oI (unC G sl M p u)))]) h0 3 dX1_readInto_39 rfl (nI_add _ _) (by decide) rfl ?_
        refine xaload_n h0 1 dX1_readInto_42 rfl rfl ?_
        refine xget (C := RX1) (T := TX1) (N := 4) (ci := 1) (v := .int (nI ((srT G sl (p, 0)).2))) h0 hiX1 0 rfl rfl 3 (by decide) (List.mem_of_getElem? (i := 2) rfl) rfl dX1_readInto_43 ?_
        refine xnif_ne (tgt := 66) h0 dX1_readInto_46 (by decide) (by first | omega | exact b01 srT_b) (fun c_3 => ?_) (fun c_3 => ?_)
        · skip
          have he : ¬ ((srT G sl (p, 0)).2 = 0 ∧ (srT G sl (p, 0)).1 < sl) := fun z => absurd z.1 (Nat.pos_iff_ne_zero.mp c_3)
          have hk1 : ¬ (srT G sl (p, 0)).2 = 0 := Nat.pos_iff_ne_zero.mp c_3
          refine xaload_n h0 1 dX1_readInto_66 rfl rfl ?_
          refine xget (C := RX1) (T := TX1) (N := 4) (ci := 1) (v := .int (nI ((srT G sl (p, 0)).2))) h0 hiX1 0 rfl rfl 3 (by decide) (List.mem_of_getElem? (i := 2) rfl) rfl dX1_readInto_67 ?_
          refine xnif_eq (tgt := 82) h0 dX1_readInto_70 (by decide) (by first | omega | exact b01 srT_b) (fun c_4 => ?_) (fun c_4 => ?_)
          · exact absurd c_4 (by intro z; exact absurd z (Nat.pos_iff_ne_zero.mp (by assumption)))
          · skip
            refine xsipush (v := (-1000)) h0 dX1_readInto_73 (by decide) ?_
            refine xaload_n h0 1 dX1_readInto_76 rfl rfl ?_
            refine xget (C := RX1) (T := TX1) (N := 4) (ci := 1) (v := .int (nI ((srT G sl (p, 0)).1))) h0 hiX1 0 rfl rfl 2 (by decide) (List.mem_of_getElem? (i := 1) rfl) rfl dX1_readInto_77 ?_
            refine xisub (v := ((-1000) - (nI ((srT G sl (p, 0)).1)))) h0 dX1_readInto_80 rfl ?_
            exact xiret h0 dX1_readInto_81 () (by rw [← hf, show 65 - n = (65 - (n + 1)) + 1 by omega, rdC_e he]; unfold ansC; rw [if_neg hk1]) (by rw [← hf, show 65 - n = (65 - (n + 1)) + 1 by omega, rdC_e he]; rfl)
        · skip
          have hv := srT_0 c_3
          have hvc := c_3
          refine xaload_n h0 1 dX1_readInto_49 rfl rfl ?_
          refine xget (C := RX1) (T := TX1) (N := 4) (ci := 1) (v := .int (nI ((srT G sl (p, 0)).1))) h0 hiX1 0 rfl rfl 2 (by decide) (List.mem_of_getElem? (i := 1) rfl) rfl dX1_readInto_50 ?_
          refine xaload_n h0 1 dX1_readInto_53 rfl rfl ?_
          refine xget (C := RX1) (T := TX1) (N := 4) (ci := 1) (v := .int (nI sl)) h0 hiX1 0 rfl rfl 1 (by decide) (List.mem_of_getElem? (i := 3) rfl) rfl dX1_readInto_54 ?_
          refine xncmp_ge (tgt := 66) h0 dX1_readInto_57 (by decide) (by first | omega | exact b01 srT_b) (by first | omega | exact b01 srT_b) (fun c_5 => ?_) (fun c_5 => ?_)
          · skip
            have he : ¬ ((srT G sl (p, 0)).2 = 0 ∧ (srT G sl (p, 0)).1 < sl) := fun z => absurd z.2 (Nat.not_lt.mpr c_5)
            refine xaload_n h0 1 dX1_readInto_66 rfl rfl ?_
            refine xget (C := RX1) (T := TX1) (N := 4) (ci := 1) (v := .int (nI ((srT G sl (p, 0)).2))) h0 hiX1 0 rfl rfl 3 (by decide) (List.mem_of_getElem? (i := 2) rfl) rfl dX1_readInto_67 ?_
            refine xnif_eq (tgt := 82) h0 dX1_readInto_70 (by decide) (by first | omega | exact b01 srT_b) (fun c_6 => ?_) (fun c_6 => ?_)
            · skip
              refine xiload_n h0 3 dX1_readInto_82 rfl rfl ?_
              refine xif_lt (tgt := 94) h0 dX1_readInto_83 (by decide)  (fun c_7 => ?_) (fun c_7 => ?_)
              · skip
                have hq := oI_lt (fun z hz => Nat.lt_of_le_of_lt (hu2 z hz) (by decide)) c_7
                refine xiload_n h0 0 dX1_readInto_94 rfl rfl ?_
                exact xiret h0 dX1_readInto_95 () (by rw [← hf, show 65 - n = (65 - (n + 1)) + 1 by omega, rdC_e he]; unfold ansC; rw [if_pos hvc]; show _ = (match unC G sl M p u with | none => nI (n + 1) | some q => (-2000) - nI q); rw [hq]) (by rw [← hf, show 65 - n = (65 - (n + 1)) + 1 by omega, rdC_e he]; rfl)
              · skip
                obtain ⟨q, hq⟩ := oI_ge c_7
                refine xlvE (lv' := [(3, .int (nI (n + 1))), (0, .ref l0), (1, .ref (a 0)), (2, .int (nI q))]) (by rw [hq]; rfl) ?_
                refine xsipush (v := (-2000)) h0 dX1_readInto_86 (by decide) ?_
                refine xiload_n h0 3 dX1_readInto_89 rfl rfl ?_
                refine xisub (v := ((-2000) - (nI q))) h0 dX1_readInto_90 rfl ?_
                refine xgoto (tgt := 95) h0 dX1_readInto_91 (by decide) ?_
                exact xiret h0 dX1_readInto_95 () (by rw [← hf, show 65 - n = (65 - (n + 1)) + 1 by omega, rdC_e he]; unfold ansC; rw [if_pos hvc]; show _ = (match unC G sl M p u with | none => nI (n + 1) | some q => (-2000) - nI q); rw [hq]) (by rw [← hf, show 65 - n = (65 - (n + 1)) + 1 by omega, rdC_e he]; rfl)
            · exact absurd c_6 (by omega)
          · skip
            have hvl := c_5
            refine xeq (ws' := ([(l0, .inr (1, [.ref l1, .int (nI sl), .int (nI ((srT G sl (p, 0)).1)), .int (nI 0)])), (l1, .inl (cC, 64, .inl (fun i_ => nI (G i_))))] ++ (wTown cI a (apS G sl M (p, 0)) k mu tm dy))) (by rw [hvc]) ?_
            refine xiload_n h0 0 dX1_readInto_60 rfl rfl ?_
            refine xbipush (v := (nI 64)) h0 dX1_readInto_61 (by decide) ?_
            refine xncmp_lt (tgt := 14) h0 dX1_readInto_63 (by decide) (by first | omega | exact b01 srT_b) (by first | omega | exact b01 srT_b) (fun c_8 => ?_) (fun c_8 => ?_)
            · skip
              refine xlv [1, 2, 3, 0] rfl ?_
              exact ih_lp ((srT G sl (p, 0)).1) (n + 1) (unC G sl M p u) (apS G sl M (p, 0)) (by have := hv.1; omega) (by exact hv.2.1) (by omega) (by exact hu2) (by exact tok_apC hM p) (by rw [← hf, show 65 - n = (65 - (n + 1)) + 1 by omega, rdC_g ⟨hvc, hvl⟩]; rfl)
            · exact absurd c_8 (by have := hv.1; omega)
      refine xistore (lv' := [(5, .int (bI ((srT G sl (p, 0)).2 = 0 ∧ fitD (M 5 0) (srS G sl (p, 0)) (srF G sl (p, 0) Z0F)))), (4, .int (nI p)), (0, .ref l0), (1, .ref (a 0)), (2, .int (oI u)), (3, .int (nI n))]) h0 dX1_readInto_25 (by decide) rfl ?_
      refine xiload h0 0 dX1_readInto_27 rfl ?_
      refine xbif_ne (tgt := 39) h0 dX1_readInto_29 (by decide)  (fun c_9 => ?_) (fun c_9 => ?_)
      · skip
        refine xlv [2, 3, 4, 5] rfl ?_
        exact jn (oI u) (by first | exact congrArg oI (if_neg (fun z => z.2 (by assumption))).symm | exact congrArg oI (if_neg (fun z => by rw [hq] at z; cases z.1)).symm | exact congrArg oI (show some p = unC G sl M p u from (if_pos ⟨hq, by assumption⟩).symm))
      · skip
        refine xiload_n h0 4 dX1_readInto_32 rfl rfl ?_
        refine xif_ge (tgt := 39) h0 dX1_readInto_33 (by decide)  (fun c_10 => ?_) (fun c_10 => ?_)
        · skip
          obtain ⟨q, hq⟩ := oI_nn c_10
          refine xlv [2, 3, 4, 5] rfl ?_
          exact jn (oI u) (by first | exact congrArg oI (if_neg (fun z => z.2 (by assumption))).symm | exact congrArg oI (if_neg (fun z => by rw [hq] at z; cases z.1)).symm | exact congrArg oI (show some p = unC G sl M p u from (if_pos ⟨hq, by assumption⟩).symm))
        · skip
          have hq := oI_ng (fun z hz => Nat.lt_of_le_of_lt (hu z hz) (by decide)) c_10
          refine xiload h0 1 dX1_readInto_36 rfl ?_
          refine xistore_n (lv' := [(2, .int (nI p)), (5, .int (bI ((srT G sl (p, 0)).2 = 0 ∧ fitD (M 5 0) (srS G sl (p, 0)) (srF G sl (p, 0) Z0F)))), (4, .int (nI p)), (0, .ref l0), (1, .ref (a 0)), (3, .int (nI n))]) h0 dX1_readInto_38 rfl (by decide) rfl ?_
          refine xlv [3, 4, 0, 5] rfl ?_
          exact jn (nI p) (by first | exact congrArg oI (if_neg (fun z => z.2 (by assumption))).symm | exact congrArg oI (if_neg (fun z => by rw [hq] at z; cases z.1)).symm | exact congrArg oI (show some p = unC G sl M p u from (if_pos ⟨hq, by assumption⟩).symm))
  refine xlv [2, 3, 1, 0] rfl ?_
  exact lp (66) 0 0 none T (by omega) (by exact Nat.zero_le _) (by exact Nat.le_refl 0) (by intro z hz; cases hz) (by exact hT) (by rfl)
