/-! STRINGS: the class's constants, and the JDK's own methods over them -/
def strN : Nat → List Nat := fun i => [[112, 97, 98, 108], [110, 119, 115, 108, 102], [98, 111, 109, 120, 100], [44], [59], [48, 49, 50, 51, 52, 53, 54, 55, 56, 57]].getD i []
def strL : List Nat := [4, 5, 5, 1, 1, 10]
def strB : List (List Int32) := [[112, 97, 98, 108], [110, 119, 115, 108, 102], [98, 111, 109, 120, 100], [44], [59], [48, 49, 50, 51, 52, 53, 54, 55, 56, 57]]
def strX : Nat → Nat := fun i => [30, 46, 48, 54, 56, 72].getD i 0
def strT : Nat → String := fun i => ["pabl", "nwslf", "bomxd", ",", ";", "0123456789"].getD i ""
theorem str_len : ∀ i, i < 6 → strL.getD i 0 = (strN i).length := by decide +kernel
theorem str_b : ∀ i, i < 6 → ∀ j, j < (strN i).length → (strB.getD i []).getD j 0 = nI ((strN i).getD j 0) := by decide +kernel
theorem str_lt : ∀ i, i < 6 → ∀ j, j < (strN i).length → (strN i).getD j 0 < 128 := by decide +kernel
theorem str_ps : ∀ i, i < 6 → 0 < (strN i).length ∧ (strN i).length ≤ 10 := by decide +kernel
theorem nI_1c : nI 1 = 1 := by decide
/-- the constants as they stand, from the law's entry on -/
def xES (z0 : Nat) (aK aV : Nat → Nat) (U : State) : Prop := z0 ≤ U.heap.size ∧ va_Z "java/lang/String" "COMPACT_STRINGS" "Z" (.int 1) (fun q => z0 ≤ q) U U.heap ∧ vk_S 6 strL strB aK aV (fun q => z0 ≤ q) U U.heap ∧ ∀ i, i < 6 → vk_R "AskAnotherFirst$Letters" (strX i) (strT i) (aK i) U
theorem xES_bl {z0 : Nat} {aK aV : Nat → Nat} : xBl (xES z0 aK aV) := fun U g mk a h => ⟨h.1, va_Z.moved (u := U) (U := U.calling g mk a) (Vm.Alike.refl U.vm) h.2.1, vk_S.moved (u := U) (U := U.calling g mk a) (Vm.Alike.refl U.vm) h.2.2.1, fun i hi => vk_R.same (u := U) rfl (h.2.2.2 i hi)⟩
theorem xES_keep {κ : Cx} {A : Nat → Prop} {z0 : Nat} {aK aV : Nat → Nat} (hE : xES z0 aK aV (xS κ)) (hA : ∀ q : Nat, A q → z0 ≤ q) {H : Heap} {locs : List Loc} {U : State} (hS : va_S A (xS κ).heap H locs) (hU : U.heap = H) (hW : (xS κ).WarmedH U.vm) : xES z0 aK aV U := by
  subst hU
  have hk : ∀ a : Nat, a < (xS κ).heap.size → ¬ z0 ≤ a → U.heap[a]? = (xS κ).heap[a]? := fun a h1 h2 => hS.2.1 a h1 (fun z => h2 (hA a z))
  exact ⟨Nat.le_trans hE.1 hS.1, va_Z.moved (u := xS κ) hW.alike (va_Z.kept hE.2.1 hk), vk_S.moved (u := xS κ) hW.alike (vk_S.kept hE.2.2.1 hk), fun i hi => vk_R.warm hW (hE.2.2.2 i hi)⟩
theorem xMetS_i {l : Launch} {y : MethodName} {wm wm' : List Cond} {rm : Room} {D : va_G} {tys : List (ClassId × FieldType)} {wc : va_W} {As : List Value} {S : Type} {post : Int32 → S → Prop} {w1 : S → va_W} {mc ms : Nat} {cc : ByteArray} {nL : Nat} {ret : Option FieldType} {z0 : Nat} {aK aV : Nat → Nat} (hge : ∀ p ∈ wc, z0 ≤ p.1) (hy : plainName y.cls = true) (hw : wm = Cond.code y cc nL ret :: wm') (hsl : (lg_sl As).length ≤ nL)
    (body : ∀ (κ : Cx) (A : Nat → Prop), XC κ cc nL ret y.cls wm rm A → (xMe κ).name = y.name → xES z0 aK aV (xS κ) → (∀ q : Nat, A q → z0 ≤ q) → XG κ nL D tys A (xQi κ D tys A post w1 mc ms) wc 0 0 0 (lv_args 0 As) []) : XMi l y wm rm D tys (xES z0 aK aV) wc As post w1 mc ms := by
  intro sz
  refine Met.ofW (cc := cc) (maxL := nL) (ret := ret) hy hw ?_
  intro p e s m args below meth c s₁ B hml hv
  obtain ⟨rfl, hsz, hP, hK, hD0, hN, hE⟩ := hv
  have hts := atoms_spec (ws := wm) B.pre
  have hown : s.vm.findClass y.cls = some m.cls := findClass_of_methodNamed B.named
  subst hsz
  have hD := hD0.self (sz := s.heap.size)
  have hl := lv_entry As (n := nL) hsl
  rw [lg_entry_eq]
  exact body (p, l, e, (headSpec wm rm).room, s, m, As.toArray, below, meth, c) (va_A wc s.heap.size) ⟨B.exec, B.bytes, hml, hown, hts, fun q h => Or.inr h, rfl, B.notSynchronized, B.returns, hN⟩ (name_of_methodNamed B.named B.method).1 hE (fun q hq => by
    rcases hq with ⟨k, e, hk⟩ | h
    · exact hge (q, e) (List.mem_of_getElem? hk)
    · exact Nat.le_trans hE.1 h) s.heap [] _ hK hP hD va_S.rf hl
section XST
variable {κ : Cx} {cc : ByteArray} {nL : Nat} {ret : Option FieldType} {own : String} {Ts : List Cond} {R : Room} {D : va_G} {tys : List (ClassId × FieldType)} {A : Nat → Prop} {Q : State → Prop} {ws ws' : va_W} {n k pc : Nat} {lv lv' : List (Nat × Value)} {st : List Value} {z0 : Nat} {aK aV : Nat → Nat}
theorem xldcS (h : XC κ cc nL ret own Ts R A) (hE : xES z0 aK aV (xS κ)) (hown : own = "AskAnotherFirst$Letters") (i : Nat) (hi : i < 6) {ix : Nat} (hx : strX i = ix) (hd : decode cc pc = .ok (.ldc ix, 2)) (kk : XG κ nL D tys A Q ws n k (pc + 2) lv (.ref (aK i) :: st)) : XG κ nL D tys A Q ws n k pc lv st := by
  subst hx; subst hown
  exact fun H locs ls hK hP hD hS hl => va_ldcS h.1 h.2.1 h.2.2.2.1 (hE.2.2.2 i hi) hd (kk H locs ls hK hP hD hS hl)
theorem xgetsS (h : XC κ cc nL ret own Ts R A) (hE : xES z0 aK aV (xS κ)) (hA : ∀ q : Nat, A q → z0 ≤ q) {ix : Nat} (hw : Cond.fieldLink own ix "java/lang/String" "COMPACT_STRINGS" "Z" ∈ Ts) (hd : decode cc pc = .ok (.getstatic ix, 3)) (kk : XG κ nL D tys A Q ws n k (pc + 3) lv (.int (nI 1) :: st)) : XG κ nL D tys A Q ws n k pc lv st := by
  intro H locs ls hK hP hD hS hl
  have k2 := kk H locs ls hK hP hD hS hl
  rw [nI_1c] at k2
  exact va_gets h.1 h.2.1 (va_Z.narrow hE.2.1 hA) hS h.2.2.2.1 (h.2.2.2.2.1 _ hw) (fun _ h9 => h9) hd k2
theorem xgetKc (h : XC κ cc nL ret own Ts R A) (hE : xES z0 aK aV (xS κ)) (hA : ∀ q : Nat, A q → z0 ≤ q) (i : Nat) (hi : i < 6) {ix : Nat} (hw : Cond.fieldLink own ix "java/lang/String" "coder" "B" ∈ Ts) (hd : decode cc pc = .ok (.getfield ix, 3)) (kk : XG κ nL D tys A Q ws n k (pc + 3) lv (.int (nI 0) :: st)) : XG κ nL D tys A Q ws n k pc lv (.ref (aK i) :: st) := by
  intro H locs ls hK hP hD hS hl
  have k2 := kk H locs ls hK hP hD hS hl
  rw [nI_0] at k2
  exact vk_getf h.1 h.2.1 (va_OF.narrow (hE.2.2.1.1 i hi).2.1 hA) hS h.2.2.2.1 (h.2.2.2.2.1 _ hw) (fun _ h9 => h9) hd k2
theorem xgetKv (h : XC κ cc nL ret own Ts R A) (hE : xES z0 aK aV (xS κ)) (hA : ∀ q : Nat, A q → z0 ≤ q) (i : Nat) (hi : i < 6) {ix : Nat} (hw : Cond.fieldLink own ix "java/lang/String" "value" "[B" ∈ Ts) (hd : decode cc pc = .ok (.getfield ix, 3)) (kk : XG κ nL D tys A Q ws n k (pc + 3) lv (.ref (aV i) :: st)) : XG κ nL D tys A Q ws n k pc lv (.ref (aK i) :: st) :=
  fun H locs ls hK hP hD hS hl => vk_getf h.1 h.2.1 (va_OF.narrow (hE.2.2.1.1 i hi).2.2.1 hA) hS h.2.2.2.1 (h.2.2.2.2.1 _ hw) (fun _ h9 => h9) hd (kk H locs ls hK hP hD hS hl)
theorem xbaldK (h : XC κ cc nL ret own Ts R A) (hE : xES z0 aK aV (xS κ)) (hA : ∀ q : Nat, A q → z0 ≤ q) (i : Nat) (hi : i < 6) {j : Nat} (hj : j < (strN i).length) (hd : decode cc pc = .ok (.baload, 1)) (kk : XG κ nL D tys A Q ws n k (pc + 1) lv (.int (nI ((strN i).getD j 0)) :: st)) : XG κ nL D tys A Q ws n k pc lv (.int (nI j) :: .ref (aV i) :: st) := by
  intro H locs ls hK hP hD hS hl
  have h10 := str_ps i hi
  have hln := str_len i hi
  refine va_tb h.1 h.2.1 (va_T.narrow (hE.2.2.1.1 i hi).2.2.2 hA) hS (vp_in_nI (by omega) (by omega)) (v := .int (nI ((strN i).getD j 0))) ?_ hd (kk H locs ls hK hP hD hS hl)
  rw [nI_clamp (by omega), str_b i hi j hj]
theorem xalenK (h : XC κ cc nL ret own Ts R A) (hE : xES z0 aK aV (xS κ)) (hA : ∀ q : Nat, A q → z0 ≤ q) (i : Nat) (hi : i < 6) (hd : decode cc pc = .ok (.arraylength, 1)) (kk : XG κ nL D tys A Q ws n k (pc + 1) lv (.int (nI (strN i).length) :: st)) : XG κ nL D tys A Q ws n k pc lv (.ref (aV i) :: st) :=
  fun H locs ls hK hP hD hS hl => va_tlen h.1 h.2.1 (va_T.narrow (hE.2.2.1.1 i hi).2.2.2 hA) hS (show Int32.ofNat (strL.getD i 0) = nI (strN i).length by rw [str_len i hi]; rfl) hd (kk H locs ls hK hP hD hS hl)
theorem xbret (h : XC κ cc nL (some .byte) own Ts R A) {S : Type} {post : Int32 → S → Prop} {w1 : S → va_W} {v : Int32} (hd : decode cc pc = .ok (.ireturn, 1)) (hn : narrow .byte (.int v) = .int v) (u : S) (hp : post v u) (hw : ws = w1 u) : XG κ nL D tys A (xQi κ D tys A post w1 n k) ws n k pc lv [.int v] :=
  fun H locs ls hK hP hD hS hl => W.zret h.1 h.2.1 h.2.2.2.2.2.2.2.2.1 hn (fun t ht hW => ⟨⟨v, u, rfl, hp, by show xWld D tys A (w1 u) t; rw [← hw]; exact ⟨by rw [ht]; exact hP, va_K.moved hW.alike hK, hD⟩⟩, hS.F ht⟩) hS.2.2 hd h.2.2.2.2.2.2.2.1
end XST
section XSC
variable {κ : Cx} {cc : ByteArray} {nL : Nat} {ret : Option FieldType} {own : String} {Ts : List Cond} {R : Room} {D : va_G} {tys : List (ClassId × FieldType)} {A : Nat → Prop} {Q : State → Prop} {ws wc wr : va_W} {n k pc mc ms : Nat} {lv : List (Nat × Value)} {st0 rest As : List Value} {z0 : Nat} {aK aV : Nat → Nat}
variable {y : MethodName} {bytes : ByteArray} {maxL index nn : Nat} {rt : Option FieldType} {wm wm' : List Cond} {rm : Room} {E : State → Prop}
theorem xcallVK_i {S : Type} {post : Int32 → S → Prop} {w1 w2 : S → va_W} (h : XC κ cc nL ret own Ts R A) (hE0 : xES z0 aK aV (xS κ)) (hA0 : ∀ q : Nat, A q → z0 ≤ q) (i : Nat) (hi : i < 6) {C : String} (hM : XMi (xL κ) y wm rm D tys E wc (.ref (aK i) :: As) post w1 mc ms) (hG : GoodIn Ts (wsV own index C y wm)) (hd : y.cls = C ∧ y.cls ≠ "java/lang/invoke/MethodHandle" ∧ y.cls ≠ "java/lang/invoke/VarHandle" ∧ (parseMethodDescriptor y.desc).map (fun d => d.parameters.length) = some nn) (hC : C = "java/lang/String") (hw : wm = Cond.code y bytes maxL rt :: wm') (hrc : rm.cells = mc) (hrs : rm.slots = ms) (hR : rm.frames + 1 ≤ R.frames ∧ 8 + (maxL + 11) + rm.locals ≤ R.locals) (hfit : n + mc ≤ R.cells ∧ k + ms ≤ R.slots) (hE : xBl E) (hE2 : ∀ (H : Heap) (locs : List Loc) (U : State), va_S A (xS κ).heap H locs → (∀ q : Nat, va_A wc H.size q → A q) → U.heap = H → (xS κ).WarmedH U.vm → E U) (hn : As.length = nn) (hst : (rest.map fun v => v.category).sum ≤ 8) (hstk : st0 = As.reverse ++ .ref (aK i) :: rest) (isC isR isB : List Nat) (hcut : xCut ws wc wr isC isR) (hbk : ∀ u, xBk wr (w1 u) (w2 u) isB) (hdg : decode cc pc = .ok (.invokevirtual index, 3)) (kk : ∀ (r : Int32) (u : S), post r u → XG κ nL D tys A Q (w2 u) (n + mc) (k + ms) (pc + 3) lv (.int r :: rest)) : XG κ nL D tys A Q ws n k pc lv st0 := by
  subst hstk
  subst hC
  refine xcall_i (a := (Value.ref (aK i) :: As).toArray) h isC isR isB hcut hbk (fun H locs ls hK hP hD hS hF hsz => ?_) kk
  have hRR : xR κ = R := h.2.2.2.2.2.2.1
  exact va_runV (rest := rest) ⟨h.1, h.2.1, h.2.2.1, h.2.2.2.1, h.2.2.2.2.1⟩ (hM H.size) (cwV nn h.2.2.2.2.1 hG hw hrc hrs hd (by rw [hRR]; exact hR)) ⟨xPre_blind hE, vk_recv (vk_S.narrow hE0.2.2.1 hA0) hi hS, fun U hU hW => ⟨rfl, by rw [hU], by rw [hU]; exact hP, va_K.moved hW.alike hK, hD, h.2.2.2.2.2.2.2.2.2.warm hW, hE2 H locs U hS hF hU hW⟩⟩ rfl hn hsz rfl (lv_room hst) hdg (by rw [hRR]; exact hfit)
end XSC
/-! the place of a letter in a row of letters -/
def ixK (l : List Nat) (c : Nat) : Nat → Option Nat
  | 0 => none
  | k + 1 => match ixK l c k with
    | some j => some j
    | none => if l.getD k 0 = c then some k else none
def ixS (l : List Nat) (c : Nat) : Option Nat := ixK l c l.length
theorem ixK_n {l : List Nat} {c k : Nat} (h : ixK l c k = none) (hne : l.getD k 0 ≠ c) : ixK l c (k + 1) = none := by rw [ixK, h]; exact if_neg hne
theorem ixK_y {l : List Nat} {c k : Nat} (h : ixK l c k = none) (he : l.getD k 0 = c) : ixK l c (k + 1) = some k := by rw [ixK, h]; exact if_pos he
theorem ixK_mono {l : List Nat} {c k j : Nat} (h : ixK l c k = some j) : ∀ d, ixK l c (k + d) = some j := by
  intro d
  induction d with
  | zero => exact h
  | succ d ih => show ixK l c (k + d + 1) = some j; rw [ixK, ih]; first | done | rfl
theorem ixS_y {l : List Nat} {c k : Nat} (hk : k < l.length) (h : ixK l c k = none) (he : l.getD k 0 = c) : ixS l c = some k := by
  have := ixK_mono (ixK_y h he) (l.length - (k + 1))
  rwa [show k + 1 + (l.length - (k + 1)) = l.length by omega] at this
theorem ixS_n {l : List Nat} {c k : Nat} (hk : l.length ≤ k) (hk2 : k ≤ l.length) (h : ixK l c k = none) : ixS l c = none := by
  rw [show k = l.length by omega] at h; exact h
theorem ixK_lt {l : List Nat} {c : Nat} : ∀ k j, ixK l c k = some j → j < k ∧ l.getD j 0 = c := by
  intro k
  induction k with
  | zero => intro j h; cases h
  | succ k ih =>
    intro j h
    cases e : ixK l c k with
    | some i => have h1 := ih i e; rw [ixK, e] at h; cases h; exact ⟨Nat.lt_succ_of_lt h1.1, h1.2⟩
    | none =>
      by_cases g : l.getD k 0 = c
      · rw [ixK_y e g] at h; cases h; exact ⟨by omega, g⟩
      · rw [ixK_n e g] at h; cases h
theorem ixS_lt {l : List Nat} {c j : Nat} (h : ixS l c = some j) : j < l.length ∧ l.getD j 0 = c := ixK_lt _ _ h
theorem i8_lo : ∀ n, n < 128 → (nI n).toInt8.toInt32 = nI n := by decide +kernel
theorem i8_hi : ∀ n, n < 256 → 128 ≤ n → (nI n).toInt8.toInt32 < 0 := by decide +kernel
theorem i8_eq {b n : Nat} (hb : b < 128) (hn : n < 256) : nI b = (nI n).toInt8.toInt32 ↔ b = n := by
  by_cases h : n < 128
  · rw [i8_lo n h]; exact nI_eq (by omega) (by omega)
  · constructor
    · intro z; have := i8_hi n hn (by omega); rw [← z] at this; exact absurd this (nI_pos (by omega))
    · intro z; omega

set_option maxHeartbeats 4000000 in
set_option maxRecDepth 100000 in
theorem c_J0_isLatin1_aae02 (l : Launch) (D : va_G) (cI cC : ClassId) (z0 : Nat) (aK aV : Nat → Nat) (i : Nat) (hi : i < 6) : XMi l yJ0_isLatin1_aae02 wsJ0_isLatin1_aae02 ({ frames := 0, cells := 0, slots := 0, locals := 0 } : Room) D (xT cI cC) (xES z0 aK aV) [] [.ref (aK i)] (S := Unit) (fun r _ => r = nI 1) (fun _ => []) 0 0 := by
  refine xMetS_i (cc := cJ0_isLatin1_aae02) (nL := 1) (ret := some .boolean) ((fun _ h => absurd h List.not_mem_nil)) (by decide +kernel) rfl (Nat.le_of_ble_eq_true rfl) (fun κ A h0 hn0 hE hAz => ?_)
  refine xlv (lv' := [(0, .ref (aK i))]) [0] rfl ?_
  refine xgetsS h0 hE hAz (List.mem_of_getElem? (i := 1) rfl) dJ0_isLatin1_aae02_0 ?_
  refine xnif_eq (tgt := 17) h0 dJ0_isLatin1_aae02_3 (by decide) (by omega) (fun c_1 => ?_) (fun c_1 => ?_)
  · exact absurd c_1 (by omega)
  · skip
    refine xaload_n h0 0 dJ0_isLatin1_aae02_6 rfl rfl ?_
    refine xgetKc h0 hE hAz i (by omega) (List.mem_of_getElem? (i := 2) rfl) dJ0_isLatin1_aae02_7 ?_
    refine xnif_ne (tgt := 17) h0 dJ0_isLatin1_aae02_10 (by decide) (by omega) (fun c_2 => ?_) (fun c_2 => ?_)
    · exact absurd c_2 (by omega)
    · skip
      refine xiconst (v := (nI 1)) h0 dJ0_isLatin1_aae02_13 (by decide) ?_
      refine xgoto (tgt := 18) h0 dJ0_isLatin1_aae02_14 (by decide) ?_
      exact xzret h0 dJ0_isLatin1_aae02_18 nar_n1 () (by exact rfl) rfl
set_option maxHeartbeats 4000000 in
set_option maxRecDepth 100000 in
theorem c_J0_coder_7d493 (l : Launch) (D : va_G) (cI cC : ClassId) (z0 : Nat) (aK aV : Nat → Nat) (i : Nat) (hi : i < 6) : XMi l yJ0_coder_7d493 wsJ0_coder_7d493 ({ frames := 0, cells := 0, slots := 0, locals := 0 } : Room) D (xT cI cC) (xES z0 aK aV) [] [.ref (aK i)] (S := Unit) (fun r _ => r = nI 0) (fun _ => []) 0 0 := by
  refine xMetS_i (cc := cJ0_coder_7d493) (nL := 1) (ret := some .byte) ((fun _ h => absurd h List.not_mem_nil)) (by decide +kernel) rfl (Nat.le_of_ble_eq_true rfl) (fun κ A h0 hn0 hE hAz => ?_)
  refine xlv (lv' := [(0, .ref (aK i))]) [0] rfl ?_
  refine xgetsS h0 hE hAz (List.mem_of_getElem? (i := 1) rfl) dJ0_coder_7d493_0 ?_
  refine xnif_eq (tgt := 13) h0 dJ0_coder_7d493_3 (by decide) (by omega) (fun c_1 => ?_) (fun c_1 => ?_)
  · exact absurd c_1 (by omega)
  · skip
    refine xaload_n h0 0 dJ0_coder_7d493_6 rfl rfl ?_
    refine xgetKc h0 hE hAz i (by omega) (List.mem_of_getElem? (i := 2) rfl) dJ0_coder_7d493_7 ?_
    refine xgoto (tgt := 14) h0 dJ0_coder_7d493_10 (by decide) ?_
    exact xbret h0 dJ0_coder_7d493_14 rfl () (by rfl) rfl
set_option maxHeartbeats 4000000 in
set_option maxRecDepth 100000 in
theorem c_J0_length_8abf5 (l : Launch) (D : va_G) (cI cC : ClassId) (z0 : Nat) (aK aV : Nat → Nat) (i : Nat) (hi : i < 6) : XMi l yJ0_length_8abf5 wsJ0_length_8abf5 ({ frames := 1, cells := 0, slots := 0, locals := 20 } : Room) D (xT cI cC) (xES z0 aK aV) [] [.ref (aK i)] (S := Unit) (fun r _ => r = nI (strN i).length) (fun _ => []) 0 0 := by
  refine xMetS_i (cc := cJ0_length_8abf5) (nL := 1) (ret := some .int) ((fun _ h => absurd h List.not_mem_nil)) (by decide +kernel) rfl (Nat.le_of_ble_eq_true rfl) (fun κ A h0 hn0 hE hAz => ?_)
  refine xlv (lv' := [(0, .ref (aK i))]) [0] rfl ?_
  have hps := str_ps i hi
  refine xaload_n h0 0 dJ0_length_8abf5_0 rfl rfl ?_
  refine xgetKv h0 hE hAz i (by omega) (List.mem_of_getElem? (i := 1) rfl) dJ0_length_8abf5_1 ?_
  refine xalenK h0 hE hAz i (by omega) dJ0_length_8abf5_4 ?_
  refine xaload_n h0 0 dJ0_length_8abf5_5 rfl rfl ?_
  refine xcallVK_i (nn := 0) (w2 := fun u_ => []) (wr := []) (rest := [.int (nI ((strN i).length))]) h0 hE hAz i (by omega) (c_J0_coder_7d493 (xL κ) D cI cC z0 aK aV i (by omega)) gJ0_length_8abf5_J0_coder_7d493 (by decide +kernel) rfl rfl rfl rfl ⟨Nat.le_of_ble_eq_true rfl, Nat.le_of_ble_eq_true rfl⟩ ⟨by decide, by decide⟩ xES_bl (fun _ _ _ hS_ _ hU_ hW_ => xES_keep hE hAz hS_ hU_ hW_) rfl (Nat.le_of_ble_eq_true rfl) rfl [] [] [] ⟨rfl, rfl, rfl, rfl, rfl⟩ (fun _ => ⟨rfl, rfl⟩) dJ0_length_8abf5_6 (fun r_2 u_ hr_1 => ?_)
  subst hr_1
  refine xishr (v := (nI ((strN i).length))) h0 dJ0_length_8abf5_9 ((nI_shr 0 (by decide) _ (by omega)).trans (congrArg nI (by rw [Nat.pow_zero, Nat.div_one]))) ?_
  exact xiret h0 dJ0_length_8abf5_10 () (by rfl) rfl
set_option maxHeartbeats 4000000 in
set_option maxRecDepth 100000 in
theorem c_J1_canEncode_9a6ad (l : Launch) (D : va_G) (cI cC : ClassId) (n : Nat) (hn : n < 256) : XMi l yJ1_canEncode_9a6ad wsJ1_canEncode_9a6ad ({ frames := 0, cells := 0, slots := 0, locals := 0 } : Room) D (xT cI cC) xE0 [] [.int (nI n)] (S := Unit) (fun r _ => r = nI 1) (fun _ => []) 0 0 := by
  refine xMet_i (cc := cJ1_canEncode_9a6ad) (nL := 1) (ret := some .boolean) (by decide +kernel) rfl (Nat.le_of_ble_eq_true rfl) (fun κ A h0 hn0 hE => ?_)
  refine xlv (lv' := [(0, .int (nI n))]) [0] rfl ?_
  refine xiload_n h0 0 dJ1_canEncode_9a6ad_0 rfl rfl ?_
  refine xnif_lt (tgt := 15) h0 dJ1_canEncode_9a6ad_1 (by decide) (by omega) ?_
  refine xiload_n h0 0 dJ1_canEncode_9a6ad_4 rfl rfl ?_
  refine xsipush (v := (nI 255)) h0 dJ1_canEncode_9a6ad_5 (by decide) ?_
  refine xncmp_gt (tgt := 15) h0 dJ1_canEncode_9a6ad_8 (by decide) (by omega) (by omega) (fun c_2 => ?_) (fun c_2 => ?_)
  · exact absurd c_2 (by omega)
  · skip
    refine xiconst (v := (nI 1)) h0 dJ1_canEncode_9a6ad_11 (by decide) ?_
    refine xgoto (tgt := 16) h0 dJ1_canEncode_9a6ad_12 (by decide) ?_
    exact xzret h0 dJ1_canEncode_9a6ad_16 nar_n1 () (by exact rfl) rfl
set_option maxHeartbeats 4000000 in
set_option maxRecDepth 100000 in
theorem c_J1_indexOfChar_4cfef (l : Launch) (D : va_G) (cI cC : ClassId) (z0 : Nat) (aK aV : Nat → Nat) (i n : Nat) (hi : i < 6) (hn : n < 256) : XMi l yJ1_indexOfChar_4cfef wsJ1_indexOfChar_4cfef ({ frames := 0, cells := 0, slots := 0, locals := 0 } : Room) D (xT cI cC) (xES z0 aK aV) [] [.ref (aV i), .int (nI n), .int (nI 0), .int (nI ((strN i).length))] (S := Unit) (fun r _ => r = oI (ixS (strN i) n)) (fun _ => []) 0 0 := by
  refine xMetS_i (cc := cJ1_indexOfChar_4cfef) (nL := 6) (ret := some .int) ((fun _ h => absurd h List.not_mem_nil)) (by decide +kernel) rfl (Nat.le_of_ble_eq_true rfl) (fun κ A h0 hn0 hE hAz => ?_)
  refine xlv (lv' := [(0, .ref (aV i)), (1, .int (nI n)), (2, .int (nI 0)), (3, .int (nI ((strN i).length)))]) [0, 1, 2, 3] rfl ?_
  have hps := str_ps i hi
  refine xiload_n h0 1 dJ1_indexOfChar_4cfef_0 rfl rfl ?_
  refine xi2b (v := ((nI n).toInt8.toInt32)) h0 dJ1_indexOfChar_4cfef_1 (rfl) ?_
  refine xistore (lv' := [(4, .int ((nI n).toInt8.toInt32)), (0, .ref (aV i)), (1, .int (nI n)), (2, .int (nI 0)), (3, .int (nI ((strN i).length)))]) h0 dJ1_indexOfChar_4cfef_2 (by decide) rfl ?_
  refine xiload_n h0 3 dJ1_indexOfChar_4cfef_4 rfl rfl ?_
  refine xistore (lv' := [(5, .int (nI 0)), (4, .int ((nI n).toInt8.toInt32)), (0, .ref (aV i)), (1, .int (nI n)), (2, .int (nI 0)), (3, .int (nI ((strN i).length)))]) h0 dJ1_indexOfChar_4cfef_5 (by decide) rfl ?_
  have lp : ∀ (d_ : Nat) (j : Nat), (11 - j ≤ d_) → (j ≤ (strN i).length) → (ixK (strN i) n j = none) → XG κ 6 D (xT cI cC) A (xQi (S := Unit) κ D (xT cI cC) A (fun r _ => r = oI (ixS (strN i) n)) (fun _ => []) 0 0) [] 0 0 7 [(0, .ref (aV i)), (1, .int (nI n)), (2, .int (nI 0)), (3, .int (nI ((strN i).length))), (4, .int ((nI n).toInt8.toInt32)), (5, .int (nI j))] [] := by
    intro d_
    induction d_ with
    | zero => intro j hm_ hj hx; exact absurd hm_ (by omega)
    | succ d_ ih_lp =>
      intro j hm_ hj hx
      refine xiload h0 5 dJ1_indexOfChar_4cfef_7 rfl ?_
      refine xiload_n h0 3 dJ1_indexOfChar_4cfef_9 rfl rfl ?_
      refine xncmp_ge (tgt := 31) h0 dJ1_indexOfChar_4cfef_10 (by decide) (by omega) (by omega) (fun c_1 => ?_) (fun c_1 => ?_)
      · skip
        refine xiconst (v := (-1)) h0 dJ1_indexOfChar_4cfef_31 (by decide) ?_
        exact xiret h0 dJ1_indexOfChar_4cfef_32 () (by rw [ixS_n (by assumption) hj hx]; rfl) rfl
      · skip
        refine xaload_n h0 0 dJ1_indexOfChar_4cfef_13 rfl rfl ?_
        refine xiload h0 5 dJ1_indexOfChar_4cfef_14 rfl ?_
        refine xbaldK h0 hE hAz i (by omega) (by omega) dJ1_indexOfChar_4cfef_16 ?_
        refine xiload h0 4 dJ1_indexOfChar_4cfef_17 rfl ?_
        refine xicmp_ne (tgt := 25) h0 dJ1_indexOfChar_4cfef_19 (by decide)  (fun c_2 => ?_) (fun c_2 => ?_)
        · skip
          have hne : (strN i).getD j 0 ≠ n := fun z => c_2 ((i8_eq (str_lt i hi j (by omega)) hn).mpr z)
          refine xiinc (v := (nI (j + 1))) (lv' := [(5, .int (nI (j + 1))), (0, .ref (aV i)), (1, .int (nI n)), (2, .int (nI 0)), (3, .int (nI ((strN i).length))), (4, .int ((nI n).toInt8.toInt32))]) h0 5 dJ1_indexOfChar_4cfef_25 rfl (nI_add _ _) (by decide) rfl ?_
          refine xgoto (tgt := 7) h0 dJ1_indexOfChar_4cfef_28 (by decide) ?_
          refine xlv [1, 2, 3, 4, 5, 0] rfl ?_
          exact ih_lp (j + 1) (by omega) (by omega) (by exact ixK_n hx hne)
        · skip
          have heq : (strN i).getD j 0 = n := (i8_eq (str_lt i hi j (by omega)) hn).mp c_2
          refine xiload h0 5 dJ1_indexOfChar_4cfef_22 rfl ?_
          exact xiret h0 dJ1_indexOfChar_4cfef_24 () (by rw [ixS_y (by omega) hx heq]; rfl) rfl
  refine xlv [2, 3, 4, 5, 1, 0] rfl ?_
  exact lp (11) 0 (by omega) (by omega) (by rfl)
set_option maxHeartbeats 4000000 in
set_option maxRecDepth 100000 in
theorem c_J1_indexOf_4cfef (l : Launch) (D : va_G) (cI cC : ClassId) (z0 : Nat) (aK aV : Nat → Nat) (i n : Nat) (hi : i < 6) (hn : n < 256) : XMi l yJ1_indexOf_4cfef wsJ1_indexOf_4cfef ({ frames := 1, cells := 0, slots := 0, locals := 25 } : Room) D (xT cI cC) (xES z0 aK aV) [] [.ref (aV i), .int (nI n), .int (nI 0), .int (nI ((strN i).length))] (S := Unit) (fun r _ => r = oI (ixS (strN i) n)) (fun _ => []) 0 0 := by
  refine xMetS_i (cc := cJ1_indexOf_4cfef) (nL := 4) (ret := some .int) ((fun _ h => absurd h List.not_mem_nil)) (by decide +kernel) rfl (Nat.le_of_ble_eq_true rfl) (fun κ A h0 hn0 hE hAz => ?_)
  refine xlv (lv' := [(0, .ref (aV i)), (1, .int (nI n)), (2, .int (nI 0)), (3, .int (nI ((strN i).length)))]) [0, 1, 2, 3] rfl ?_
  have hps := str_ps i hi
  refine xiload_n h0 1 dJ1_indexOf_4cfef_0 rfl rfl ?_
  refine xcallS_i (nn := 1) (w2 := fun u_ => []) (wr := []) (rest := []) h0 (c_J1_canEncode_9a6ad (xL κ) D cI cC n (by omega)) gJ1_indexOf_4cfef_J1_canEncode_9a6ad (by decide +kernel) rfl rfl rfl ⟨Nat.le_of_ble_eq_true rfl, Nat.le_of_ble_eq_true rfl⟩ ⟨by decide, by decide⟩ (fun _ _ _ _ h => h) (fun _ _ _ _ _ _ _ => trivial) rfl (Nat.le_of_ble_eq_true rfl) rfl [] [] [] ⟨rfl, rfl, rfl, rfl, rfl⟩ (fun _ => ⟨rfl, rfl⟩) dJ1_indexOf_4cfef_1 (fun r_2 u_ hr_1 => ?_)
  subst hr_1
  refine xnif_ne (tgt := 9) h0 dJ1_indexOf_4cfef_4 (by decide) (by omega) (fun c_3 => ?_) (fun c_3 => ?_)
  · skip
    refine xiload_n h0 2 dJ1_indexOf_4cfef_9 rfl rfl ?_
    refine xiconst (v := (nI 0)) h0 dJ1_indexOf_4cfef_10 (by decide) ?_
    refine xmax (v := (nI 0)) h0 (List.mem_of_getElem? (i := 1) rfl) (List.mem_of_getElem? (i := 2) rfl) (List.mem_of_getElem? (i := 3) rfl) (List.mem_of_getElem? (i := 4) rfl) ⟨by decide, by decide, by decide, by decide⟩ dJ1_indexOf_4cfef_11 (ite_self _) ?_
    refine xistore_n (lv' := [(2, .int (nI 0)), (0, .ref (aV i)), (1, .int (nI n)), (3, .int (nI ((strN i).length)))]) h0 dJ1_indexOf_4cfef_14 rfl (by decide) rfl ?_
    refine xiload_n h0 3 dJ1_indexOf_4cfef_15 rfl rfl ?_
    refine xaload_n h0 1 dJ1_indexOf_4cfef_16 rfl rfl ?_
    refine xalenK h0 hE hAz i (by omega) dJ1_indexOf_4cfef_17 ?_
    refine xmin (v := (nI ((strN i).length))) h0 (List.mem_of_getElem? (i := 5) rfl) (List.mem_of_getElem? (i := 6) rfl) (List.mem_of_getElem? (i := 3) rfl) (List.mem_of_getElem? (i := 7) rfl) ⟨by decide, by decide, by decide, by decide⟩ dJ1_indexOf_4cfef_18 (ite_self _) ?_
    refine xistore_n (lv' := [(3, .int (nI ((strN i).length))), (2, .int (nI 0)), (0, .ref (aV i)), (1, .int (nI n))]) h0 dJ1_indexOf_4cfef_21 rfl (by decide) rfl ?_
    refine xiload_n h0 1 dJ1_indexOf_4cfef_22 rfl rfl ?_
    refine xiload_n h0 0 dJ1_indexOf_4cfef_23 rfl rfl ?_
    refine xncmp_lt (tgt := 29) h0 dJ1_indexOf_4cfef_24 (by decide) (by omega) (by omega) (fun c_4 => ?_) (fun c_4 => ?_)
    · skip
      refine xaload_n h0 2 dJ1_indexOf_4cfef_29 rfl rfl ?_
      refine xiload_n h0 3 dJ1_indexOf_4cfef_30 rfl rfl ?_
      refine xiload_n h0 1 dJ1_indexOf_4cfef_31 rfl rfl ?_
      refine xiload_n h0 0 dJ1_indexOf_4cfef_32 rfl rfl ?_
      refine xcallS_i (nn := 4) (w2 := fun u_ => []) (wr := []) (rest := []) h0 (c_J1_indexOfChar_4cfef (xL κ) D cI cC z0 aK aV i n (by omega) (by omega)) gJ1_indexOf_4cfef_J1_indexOfChar_4cfef (by decide +kernel) rfl rfl rfl ⟨Nat.le_of_ble_eq_true rfl, Nat.le_of_ble_eq_true rfl⟩ ⟨by decide, by decide⟩ xES_bl (fun _ _ _ hS_ _ hU_ hW_ => xES_keep hE hAz hS_ hU_ hW_) rfl (Nat.le_of_ble_eq_true rfl) rfl [] [] [] ⟨rfl, rfl, rfl, rfl, rfl⟩ (fun _ => ⟨rfl, rfl⟩) dJ1_indexOf_4cfef_33 (fun r_6 u_ hr_5 => ?_)
      subst hr_5
      exact xiret h0 dJ1_indexOf_4cfef_36 () (by rfl) rfl
    · exact absurd c_4 (by omega)
  · exact absurd c_3 (by omega)
set_option maxHeartbeats 4000000 in
set_option maxRecDepth 100000 in
theorem c_J0_indexOf_7cf53 (l : Launch) (D : va_G) (cI cC : ClassId) (z0 : Nat) (aK aV : Nat → Nat) (i n : Nat) (hi : i < 6) (hn : n < 256) : XMi l yJ0_indexOf_7cf53 wsJ0_indexOf_7cf53 ({ frames := 2, cells := 0, slots := 0, locals := 48 } : Room) D (xT cI cC) (xES z0 aK aV) [] [.ref (aK i), .int (nI n), .int (nI 0)] (S := Unit) (fun r _ => r = oI (ixS (strN i) n)) (fun _ => []) 0 0 := by
  refine xMetS_i (cc := cJ0_indexOf_7cf53) (nL := 3) (ret := some .int) ((fun _ h => absurd h List.not_mem_nil)) (by decide +kernel) rfl (Nat.le_of_ble_eq_true rfl) (fun κ A h0 hn0 hE hAz => ?_)
  refine xlv (lv' := [(0, .ref (aK i)), (1, .int (nI n)), (2, .int (nI 0))]) [0, 1, 2] rfl ?_
  refine xaload_n h0 0 dJ0_indexOf_7cf53_0 rfl rfl ?_
  refine xcallVK_i (nn := 0) (w2 := fun u_ => []) (wr := []) (rest := []) h0 hE hAz i (by omega) (c_J0_isLatin1_aae02 (xL κ) D cI cC z0 aK aV i (by omega)) gJ0_indexOf_7cf53_J0_isLatin1_aae02 (by decide +kernel) rfl rfl rfl rfl ⟨Nat.le_of_ble_eq_true rfl, Nat.le_of_ble_eq_true rfl⟩ ⟨by decide, by decide⟩ xES_bl (fun _ _ _ hS_ _ hU_ hW_ => xES_keep hE hAz hS_ hU_ hW_) rfl (Nat.le_of_ble_eq_true rfl) rfl [] [] [] ⟨rfl, rfl, rfl, rfl, rfl⟩ (fun _ => ⟨rfl, rfl⟩) dJ0_indexOf_7cf53_1 (fun r_2 u_ hr_1 => ?_)
  subst hr_1
  refine xnif_eq (tgt := 23) h0 dJ0_indexOf_7cf53_4 (by decide) (by omega) (fun c_3 => ?_) (fun c_3 => ?_)
  · exact absurd c_3 (by omega)
  · skip
    refine xaload_n h0 0 dJ0_indexOf_7cf53_7 rfl rfl ?_
    refine xgetKv h0 hE hAz i (by omega) (List.mem_of_getElem? (i := 1) rfl) dJ0_indexOf_7cf53_8 ?_
    refine xiload_n h0 1 dJ0_indexOf_7cf53_11 rfl rfl ?_
    refine xiload_n h0 2 dJ0_indexOf_7cf53_12 rfl rfl ?_
    refine xaload_n h0 0 dJ0_indexOf_7cf53_13 rfl rfl ?_
    refine xcallVK_i (nn := 0) (w2 := fun u_ => []) (wr := []) (rest := [.int (nI 0), .int (nI n), .ref (aV i)]) h0 hE hAz i (by omega) (c_J0_length_8abf5 (xL κ) D cI cC z0 aK aV i (by omega)) gJ0_indexOf_7cf53_J0_length_8abf5 (by decide +kernel) rfl rfl rfl rfl ⟨Nat.le_of_ble_eq_true rfl, Nat.le_of_ble_eq_true rfl⟩ ⟨by decide, by decide⟩ xES_bl (fun _ _ _ hS_ _ hU_ hW_ => xES_keep hE hAz hS_ hU_ hW_) rfl (Nat.le_of_ble_eq_true rfl) rfl [] [] [] ⟨rfl, rfl, rfl, rfl, rfl⟩ (fun _ => ⟨rfl, rfl⟩) dJ0_indexOf_7cf53_14 (fun r_5 u_ hr_4 => ?_)
    subst hr_4
    refine xcallS_i (nn := 4) (w2 := fun u_ => []) (wr := []) (rest := []) h0 (c_J1_indexOf_4cfef (xL κ) D cI cC z0 aK aV i n (by omega) (by omega)) gJ0_indexOf_7cf53_J1_indexOf_4cfef (by decide +kernel) rfl rfl rfl ⟨Nat.le_of_ble_eq_true rfl, Nat.le_of_ble_eq_true rfl⟩ ⟨by decide, by decide⟩ xES_bl (fun _ _ _ hS_ _ hU_ hW_ => xES_keep hE hAz hS_ hU_ hW_) rfl (Nat.le_of_ble_eq_true rfl) rfl [] [] [] ⟨rfl, rfl, rfl, rfl, rfl⟩ (fun _ => ⟨rfl, rfl⟩) dJ0_indexOf_7cf53_17 (fun r_7 u_ hr_6 => ?_)
    subst hr_6
    refine xgoto (tgt := 36) h0 dJ0_indexOf_7cf53_20 (by decide) ?_
    exact xiret h0 dJ0_indexOf_7cf53_36 () (by rfl) rfl
set_option maxHeartbeats 4000000 in
set_option maxRecDepth 100000 in
theorem c_J0_indexOf_0f7a4 (l : Launch) (D : va_G) (cI cC : ClassId) (z0 : Nat) (aK aV : Nat → Nat) (i n : Nat) (hi : i < 6) (hn : n < 256) : XMi l yJ0_indexOf_0f7a4 wsJ0_indexOf_0f7a4 ({ frames := 3, cells := 0, slots := 0, locals := 70 } : Room) D (xT cI cC) (xES z0 aK aV) [] [.ref (aK i), .int (nI n)] (S := Unit) (fun r _ => r = oI (ixS (strN i) n)) (fun _ => []) 0 0 := by
  refine xMetS_i (cc := cJ0_indexOf_0f7a4) (nL := 2) (ret := some .int) ((fun _ h => absurd h List.not_mem_nil)) (by decide +kernel) rfl (Nat.le_of_ble_eq_true rfl) (fun κ A h0 hn0 hE hAz => ?_)
  refine xlv (lv' := [(0, .ref (aK i)), (1, .int (nI n))]) [0, 1] rfl ?_
  refine xaload_n h0 0 dJ0_indexOf_0f7a4_0 rfl rfl ?_
  refine xiload_n h0 1 dJ0_indexOf_0f7a4_1 rfl rfl ?_
  refine xiconst (v := (nI 0)) h0 dJ0_indexOf_0f7a4_2 (by decide) ?_
  refine xcallVK_i (nn := 2) (w2 := fun u_ => []) (wr := []) (rest := []) h0 hE hAz i (by omega) (c_J0_indexOf_7cf53 (xL κ) D cI cC z0 aK aV i n (by omega) (by omega)) gJ0_indexOf_0f7a4_J0_indexOf_7cf53 (by decide +kernel) rfl rfl rfl rfl ⟨Nat.le_of_ble_eq_true rfl, Nat.le_of_ble_eq_true rfl⟩ ⟨by decide, by decide⟩ xES_bl (fun _ _ _ hS_ _ hU_ hW_ => xES_keep hE hAz hS_ hU_ hW_) rfl (Nat.le_of_ble_eq_true rfl) rfl [] [] [] ⟨rfl, rfl, rfl, rfl, rfl⟩ (fun _ => ⟨rfl, rfl⟩) dJ0_indexOf_0f7a4_3 (fun r_2 u_ hr_1 => ?_)
  subst hr_1
  exact xiret h0 dJ0_indexOf_0f7a4_6 () (by rfl) rfl
