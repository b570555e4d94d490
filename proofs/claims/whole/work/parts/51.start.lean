/-! THE CLAIM OUT OF ONE WALK OF THE LAW'S BODY. Your part is whole_start (and what it stands on); all else here is the same for every law, but numbers. -/
def R_law : String := "AskAnotherFirstLaw"
def lw_P (b : Addr) (xs : List Int32) (args : Array Value) (s : State) : Prop := args = #[.ref b] ∧ s.IntsAt b xs ∧ xs.length ≤ 2048 ∧ (Jvm.Cond.and given_1 narrow_1).before args s = true
def lw_Q (_ : Array Value) (s : State) (o : Outcome) (t : State) : Prop := o = .returned (some (.int 1)) ∧ Framed s o t [] 600000 7302250
def lw_Z (below : List Frame) (a : Array Value) (s : State) : State → Prop := fun t => ∃ o, t.status = .running ∧ Ended t below o ∧ lw_Q a s o t
/-- the law's own end, with 1 on the stack, nothing written that was there before, its room as the claim has it -/
theorem lw_ret {p : Program} {l : Launch} {e : Env} {s : State} {m : MethodId} {below : List Frame} {meth : Method} {c : Code} {b : Nat} (hx : p.tables.exec = Jvm.exec) (hb : c.code = code) (hr : meth.sig.returnType = ret) (hlocks : meth.locks = false) {pc : Nat} {H : Heap} {ls : Array Slot} (hdg : decode code pc = .ok (.ireturn, 1)) : W p l e room_1 s m #[Value.ref b] below meth c H [] 600000 7302250 (lw_Z below #[Value.ref b] s) (F0 m pc ls [.int 1]) := by
  intro T hT X
  obtain ⟨fs, hret, hrun, hended, hW, hframe⟩ := X.leave (v := some (.int 1)) (hlocks := hlocks) (fun h => by rw [hr] at h; cases h)
  have hmeth' : T.vm.method? m = some meth := X.method'
  refine ⟨T.setFrames fs, ?_, .returned (some (.int 1)), hrun, hended, rfl, ⟨_, rfl⟩, hW, hframe⟩
  jvm_step X.here [X.here.top, hx, hb, hdg, hmeth', hr, ret, narrow_b1]
  (try refine ⟨rfl, ?_⟩); (try refine ⟨rfl, ?_⟩)
  first | (intro acts; rw [hret _ acts rfl rfl rfl]) | rw [hret _ _ rfl rfl rfl]
  exact Steps.refl _
/-- what holds at the law's entry: the machine, the code, the tables' words (any of lw_tbl by 'hts w (by decide +kernel)'), the script of L ints xs at the cell b, what the Statement gives of the start (any of its parts by flat_of_before) -/
def lw_At (p : Program) (s : State) (m : MethodId) (meth : Method) (c : Code) (b L : Nat) (xs : Nat → Int32) : Prop :=
  p.tables.exec = Jvm.exec ∧ c.code = code ∧ meth.sig.returnType = ret ∧ c.maxLocals = 4 ∧ s.vm.findClass R_law = some m.cls ∧ (∀ w ∈ lw_tbl, w.before #[Value.ref b] s = true) ∧ va_X b L xs s s.heap ∧ b < s.heap.size ∧ meth.locks = false ∧ (Jvm.Cond.and given_1 narrow_1).before #[Value.ref b] s = true
set_option maxRecDepth 100000 in
theorem nestF_in : ∀ q ∈ nestF, (Cond.fieldLinkNest q.1 q.2.1 q.2.2.1 q.2.2.2.1 q.2.2.2.2.1 q.2.2.2.2.2) ∈ lw_tbl := by decide +kernel
set_option maxRecDepth 100000 in
theorem nestM_in : ∀ q ∈ nestM, (Cond.methodLinkNest q.1 q.2.1 q.2.2.1 q.2.2.2) ∈ lw_tbl := by decide +kernel
abbrev strM (i : Nat) : Term := .string "AskAnotherFirst$Letters" (strX i)
abbrev giv : Cond := Jvm.Cond.and given_1 narrow_1
set_option maxRecDepth 100000 in
theorem sg_ex : ∀ i, i < 6 → (Cond.exactly (strM i) "java/lang/String") ∈ flatC giv := by decide +kernel
set_option maxRecDepth 100000 in
theorem sg_co : ∀ i, i < 6 → (Cond.eq (.field (strM i) "java/lang/String" "coder" "B") (.int 0)) ∈ flatC giv := by decide +kernel
set_option maxRecDepth 100000 in
theorem sg_ar : ∀ i, i < 6 → (Cond.arrayOf (.field (strM i) "java/lang/String" "value" "[B") .byte) ∈ flatC giv := by decide +kernel
set_option maxRecDepth 100000 in
theorem sg_le : ∀ i, i < 6 → (Cond.eq (.length (.field (strM i) "java/lang/String" "value" "[B")) (.int (Int32.ofNat (strL.getD i 0)))) ∈ flatC giv := by decide +kernel
set_option maxRecDepth 100000 in
theorem sg_el : ∀ i, i < 6 → ∀ j, j < strL.getD i 0 → (Cond.eq (.elem (.field (strM i) "java/lang/String" "value" "[B") (.int (Int32.ofNat j))) (.int ((strB.getD i []).getD j 0))) ∈ flatC giv := by decide +kernel
set_option maxRecDepth 100000 in
theorem sg_ne : ∀ i, i < 6 → ∀ j, j < 6 → i ≠ j → (Cond.not (Cond.eq (strM i) (strM j))) ∈ flatC giv ∨ (Cond.not (Cond.eq (strM j) (strM i))) ∈ flatC giv := by decide +kernel
set_option maxRecDepth 100000 in
theorem sg_cs : (Cond.eq (.static "java/lang/String" "COMPACT_STRINGS" "Z") (.int 1)) ∈ flatC giv := by decide +kernel
set_option maxRecDepth 100000 in
theorem sg_rf : ∀ i, i < 6 → (Cond.stringRef "AskAnotherFirst$Letters" (strX i) (strT i)) ∈ lw_tbl := by decide +kernel
theorem sg_31 : ∀ i, i < 6 → strL.getD i 0 < 2 ^ 31 := by decide
set_option maxHeartbeats 8000000 in
set_option maxRecDepth 100000 in
theorem whole_start {p : Program} {e : Env} {s : State} {m : MethodId} {below : List Frame} {meth : Method} {c : Code} (l : Launch) (hflags : l.flags = flags0) {b L : Nat} {xs : Nat → Int32} (hL : L ≤ 2048) (C0 : lw_At p s m meth c b L xs) : W p l e room_1 s m #[Value.ref b] below meth c s.heap [] 0 0 (lw_Z below #[Value.ref b] s) (entryFrame m ([Value.ref b] : List Value).toArray 4) := by
  obtain ⟨hx, hb, hr, hml, hown, hts, hX, hbl, hlocks, hgv⟩ := id C0
  have hw : ∀ w ∈ wsL_law, w.before #[Value.ref b] s = true := fun w h => hts w (wsL_law_in w h)
  have hA0 : ∀ a : Nat, a < s.heap.size → ¬ (fun q : Nat => s.heap.size ≤ q) a := fun a h => Nat.not_le.mpr h
  have hg := flat_of_before _ hgv
  obtain ⟨c0, i0, K0⟩ := u_known (C := RX0) (T := TX0) (N := 8) (n := 8) hw inlX0 (hts (.instantiable RX0 8) (by decide +kernel))
  obtain ⟨c1, i1, K1⟩ := u_known (C := RX1) (T := TX1) (N := 4) (n := 4) hw inlX1 (hts (.instantiable RX1 4) (by decide +kernel))
  obtain ⟨c2, i2, K2⟩ := u_known (C := RX2) (T := TX2) (N := 2) (n := 2) hw inlX2 (hts (.instantiable RX2 2) (by decide +kernel))
  obtain ⟨c3, i3, K3⟩ := u_known (C := RX3) (T := TX3) (N := 13) (n := 13) hw inlX3 (hts (.instantiable RX3 13) (by decide +kernel))
  obtain ⟨c4, i4, K4⟩ := u_known (C := RX4) (T := TX4) (N := 3) (n := 3) hw inlX4 (hts (.instantiable RX4 3) (by decide +kernel))
  obtain ⟨c5, i5, K5⟩ := u_known (C := RX5) (T := TX5) (N := 11) (n := 11) hw inlX5 (hts (.instantiable RX5 11) (by decide +kernel))
  obtain ⟨c6, i6, K6⟩ := u_known (C := RX6) (T := TX6) (N := 52) (n := 52) hw inlX6 (hts (.instantiable RX6 52) (by decide +kernel))
  obtain ⟨dC, dI, hKc⟩ : ∃ (dC : Nat → ClassId) (dI : Nat → Nat → Nat), ∀ (k : Nat) (q : vw_C), vwCl[k]? = some q → u_Kn s q.1 q.2.1 q.2.2 (dC k) (dI k) := by
    refine ⟨fun k => [c0, c1, c2, c3, c4, c5, c6].getD k c0, fun k => [i0, i1, i2, i3, i4, i5, i6].getD k i0, ?_⟩
    intro k q hq
    match k, hq with
    | 0, hq => cases hq; exact K0
    | 1, hq => cases hq; exact K1
    | 2, hq => cases hq; exact K2
    | 3, hq => cases hq; exact K3
    | 4, hq => cases hq; exact K4
    | 5, hq => cases hq; exact K5
    | 6, hq => cases hq; exact K6
    | k + 7, hq => simp [vwCl] at hq
  obtain ⟨cI, kI, compI, hI1, hI2, hI3⟩ := Cond.arrayClass_spec (hts (.arrayClass .int) (by decide +kernel))
  obtain ⟨cC, kC, compC, hC1, hC2, hC3⟩ := Cond.arrayClass_spec (hts (.arrayClass .char) (by decide +kernel))
  have hK : va_K (dC, dI) vwCl (xT cI cC) s := by
    refine ⟨hKc, fun k q hq => ?_⟩
    match k, hq with
    | 0, hq => cases hq; exact ⟨fun n z => ⟨fun k h => (by cases h), kI, hI2, compI, hI3⟩, hI1⟩
    | 1, hq => cases hq; exact ⟨fun n z => ⟨fun k h => (by cases h), kC, hC2, compC, hC3⟩, hC1⟩
    | k + 2, hq => simp [xT] at hq
  obtain ⟨aK, aV, hSt, hEv⟩ := vk_Sof (N := 6) (tm := strM) (len := strL) (byt := strB) (A := fun q : Nat => s.heap.size ≤ q) (s := s) (args := #[Value.ref b]) sg_31 (fun i hi => hg _ (sg_ex i hi)) (fun i hi => hg _ (sg_co i hi)) (fun i hi => hg _ (sg_ar i hi)) (fun i hi => hg _ (sg_le i hi)) (fun i hi j hj => hg _ (sg_el i hi j hj)) (fun i j hi hj hij => (sg_ne i hi j hj hij).elim (fun h => Or.inl (hg _ h)) (fun h => Or.inr (hg _ h))) hA0
  have hE : xES s.heap.size aK aV s := ⟨Nat.le_refl _, va_Zof (args := #[Value.ref b]) (hts (.laysStatic "java/lang/String" "COMPACT_STRINGS" "Z") (by decide +kernel)) (hts (.initialized "java/lang/String") (by decide +kernel)) (va_eqt (hg _ sg_cs)) hA0, hSt, fun i hi => vk_R.of (A := #[Value.ref b]) (hts _ (sg_rf i hi)) (hEv i hi)⟩
  have hN : xNs s := ⟨fun q hq => va_Nw.of rfl (hts _ (nestF_in q hq)), fun q hq => va_Nw.of rfl (hts _ (nestM_in q hq))⟩
  have h0 : XC (p, l, e, room_1, s, m, #[Value.ref b], below, meth, c) cL_law 4 (some .boolean) RL wsL_law room_1 (fun q : Nat => s.heap.size ≤ q) := ⟨hx, hb, hml, hown, hw, fun q h => h, rfl, hlocks, hr, hN⟩
  have hend : ∀ (ws : va_W) (lv : List (Nat × Value)), XG (p, l, e, room_1, s, m, #[Value.ref b], below, meth, c) 4 (dC, dI) (xT cI cC) (fun q : Nat => s.heap.size ≤ q) (lw_Z below #[Value.ref b] s) ws 62 909 874 lv [.int (nI 1)] := by
    intro ws lv H locs ls hK hP hD hS hl
    show W p l e room_1 s m #[Value.ref b] below meth c H locs 62 909 (lw_Z below #[Value.ref b] s) (F0 m 874 ls [.int (nI 1)])
    rw [nI_1c]
    exact va_forget (fun q hq => hS.2.2 q hq) (W.widen (Nat.le_of_ble_eq_true rfl) (Nat.le_of_ble_eq_true rfl) (lw_ret hx hb hr hlocks dL_law_874))
  have hP : va_P (dC, dI) vwCl [] s.heap := fun k q h => by simp at h
  have hD : va_D (fun q : Nat => s.heap.size ≤ q) [] := ⟨fun i j p q h => by simp at h, fun k q h => by simp at h⟩
  have hl := lv_entry ([.ref b]) (n := 4) (Nat.le_of_ble_eq_true rfl)
  rw [lg_entry_eq]
  exact law_go (κ := (p, l, e, room_1, s, m, #[Value.ref b], below, meth, c)) (D := (dC, dI)) h0 hE (fun q h => h) hX hbl (Nat.not_le.mpr hbl) hL hend s.heap [] _ hK hP hD va_S.rf hl
