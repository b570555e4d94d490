/-! CONTRACTS over XG, and calls -/
/-- the cells at a state -/
def xWld (D : va_G) (tys : List (ClassId × FieldType)) (A : Nat → Prop) (ws : va_W) (t : State) : Prop := va_P D vwCl ws t.heap ∧ va_K D vwCl tys t ∧ va_D A ws
def xPre (D : va_G) (tys : List (ClassId × FieldType)) (E : State → Prop) (ws : va_W) (sz : Nat) (As : List Value) : Array Value → State → Prop := va_Pc As (fun U => U.heap.size = sz ∧ va_P D vwCl ws U.heap ∧ va_K D vwCl tys U ∧ va_D (fun _ => True) ws ∧ xNs U ∧ E U)
def xBl (E : State → Prop) : Prop := ∀ (U : State) (g : JFrame) (mk : MethodId) (a : Array Value), E U → E (U.calling g mk a)
theorem xPre_blind {D : va_G} {tys : List (ClassId × FieldType)} {E : State → Prop} {ws : va_W} {sz : Nat} {As : List Value} (hE : xBl E) : FrameBlind (xPre D tys E ws sz As) := fun a U g mk q => by
  obtain ⟨q0, q1, qP, qK, qD, qN, qE⟩ := q
  exact ⟨q0, q1, qP, va_K.moved (u := U) (U := U.calling g mk a) (Vm.Alike.refl U.vm) qK, qD, qN.call g mk a, hE U g mk a qE⟩
/-- int, void: from any heap with the cells wc, the method returns; its answer and the cells w1 by post -/
def XMi (l : Launch) (y : MethodName) (wm : List Cond) (rm : Room) (D : va_G) (tys : List (ClassId × FieldType)) (E : State → Prop) (wc : va_W) (As : List Value) {S : Type} (post : Int32 → S → Prop) (w1 : S → va_W) (mc ms : Nat) : Prop := ∀ sz : Nat, Met l y wm rm (xPre D tys E wc sz As) (va_Qi post (fun u t => xWld D tys (va_A wc sz) (w1 u) t) (va_A wc sz)) mc ms (va_A wc sz)
def XMv (l : Launch) (y : MethodName) (wm : List Cond) (rm : Room) (D : va_G) (tys : List (ClassId × FieldType)) (E : State → Prop) (wc : va_W) (As : List Value) {S : Type} (post : S → Prop) (w1 : S → va_W) (mc ms : Nat) : Prop := ∀ sz : Nat, Met l y wm rm (xPre D tys E wc sz As) (va_Qv post (fun u t => xWld D tys (va_A wc sz) (w1 u) t) (va_A wc sz)) mc ms (va_A wc sz)
def xQi (κ : Cx) (D : va_G) (tys : List (ClassId × FieldType)) (A : Nat → Prop) {S : Type} (post : Int32 → S → Prop) (w1 : S → va_W) (mc ms : Nat) : State → Prop := MQ (xB κ) (va_Qi post (fun u t => xWld D tys A (w1 u) t) A) (xA κ) (xS κ) mc ms A
def xQv (κ : Cx) (D : va_G) (tys : List (ClassId × FieldType)) (A : Nat → Prop) {S : Type} (post : S → Prop) (w1 : S → va_W) (mc ms : Nat) : State → Prop := MQ (xB κ) (va_Qv post (fun u t => xWld D tys A (w1 u) t) A) (xA κ) (xS κ) mc ms A
theorem xMet_i {l : Launch} {y : MethodName} {wm wm' : List Cond} {rm : Room} {D : va_G} {tys : List (ClassId × FieldType)} {E : State → Prop} {wc : va_W} {As : List Value} {S : Type} {post : Int32 → S → Prop} {w1 : S → va_W} {mc ms : Nat} {cc : ByteArray} {nL : Nat} {ret : Option FieldType} (hy : plainName y.cls = true) (hw : wm = Cond.code y cc nL ret :: wm') (hsl : (lg_sl As).length ≤ nL)
    (body : ∀ (κ : Cx) (A : Nat → Prop), XC κ cc nL ret y.cls wm rm A → (xMe κ).name = y.name → E (xS κ) → XG κ nL D tys A (xQi κ D tys A post w1 mc ms) wc 0 0 0 (lv_args 0 As) []) : XMi l y wm rm D tys E wc As post w1 mc ms := by
  intro sz
  refine Met.ofW (cc := cc) (maxL := nL) (ret := ret) hy hw ?_
  intro p e s m args below meth c s₁ B hml hv
  obtain ⟨rfl, hsz, hP, hK, hD0, hN, hE⟩ := hv
  have hts := atoms_spec (ws := wm) B.pre
  have hown : s.vm.findClass y.cls = some m.cls := findClass_of_methodNamed B.named
  subst hsz
  have hD := hD0.self (sz := s.heap.size)
  have hl := lv_entry As (n := nL) hsl
  rw [lg_entry_eq]
  exact body (p, l, e, (headSpec wm rm).room, s, m, As.toArray, below, meth, c) _ ⟨B.exec, B.bytes, hml, hown, hts, fun q h => Or.inr h, rfl, B.notSynchronized, B.returns, hN⟩ (name_of_methodNamed B.named B.method).1 hE s.heap [] _ hK hP hD va_S.rf hl
theorem xMet_v {l : Launch} {y : MethodName} {wm wm' : List Cond} {rm : Room} {D : va_G} {tys : List (ClassId × FieldType)} {E : State → Prop} {wc : va_W} {As : List Value} {S : Type} {post : S → Prop} {w1 : S → va_W} {mc ms : Nat} {cc : ByteArray} {nL : Nat}  (hy : plainName y.cls = true) (hw : wm = Cond.code y cc nL none :: wm') (hsl : (lg_sl As).length ≤ nL)
    (body : ∀ (κ : Cx) (A : Nat → Prop), XC κ cc nL none y.cls wm rm A → (xMe κ).name = y.name → E (xS κ) → XG κ nL D tys A (xQv κ D tys A post w1 mc ms) wc 0 0 0 (lv_args 0 As) []) : XMv l y wm rm D tys E wc As post w1 mc ms := by
  intro sz
  refine Met.ofW (cc := cc) (maxL := nL) (ret := none) hy hw ?_
  intro p e s m args below meth c s₁ B hml hv
  obtain ⟨rfl, hsz, hP, hK, hD0, hN, hE⟩ := hv
  have hts := atoms_spec (ws := wm) B.pre
  have hown : s.vm.findClass y.cls = some m.cls := findClass_of_methodNamed B.named
  subst hsz
  have hD := hD0.self (sz := s.heap.size)
  have hl := lv_entry As (n := nL) hsl
  rw [lg_entry_eq]
  exact body (p, l, e, (headSpec wm rm).room, s, m, As.toArray, below, meth, c) _ ⟨B.exec, B.bytes, hml, hown, hts, fun q h => Or.inr h, rfl, B.notSynchronized, B.returns, hN⟩ (name_of_methodNamed B.named B.method).1 hE s.heap [] _ hK hP hD va_S.rf hl
section XR1
variable {κ : Cx} {cc : ByteArray} {nL : Nat} {own : String} {Ts : List Cond} {R : Room} {D : va_G} {tys : List (ClassId × FieldType)} {A : Nat → Prop} {ws : va_W} {n k pc : Nat} {lv : List (Nat × Value)}
theorem xiret (h : XC κ cc nL (some .int) own Ts R A) {S : Type} {post : Int32 → S → Prop} {w1 : S → va_W} {v : Int32} (hd : decode cc pc = .ok (.ireturn, 1)) (u : S) (hp : post v u) (hw : ws = w1 u) : XG κ nL D tys A (xQi κ D tys A post w1 n k) ws n k pc lv [.int v] :=
  fun H locs ls hK hP hD hS hl => W.iret h.1 h.2.1 h.2.2.2.2.2.2.2.2.1 (fun t ht hW => ⟨⟨v, u, rfl, hp, by show xWld D tys A (w1 u) t; rw [← hw]; exact ⟨by rw [ht]; exact hP, va_K.moved hW.alike hK, hD⟩⟩, hS.F ht⟩) hS.2.2 hd h.2.2.2.2.2.2.2.1
theorem xzret (h : XC κ cc nL (some .boolean) own Ts R A) {S : Type} {post : Int32 → S → Prop} {w1 : S → va_W} {v : Int32} (hd : decode cc pc = .ok (.ireturn, 1)) (hn : narrow .boolean (.int v) = .int v) (u : S) (hp : post v u) (hw : ws = w1 u) : XG κ nL D tys A (xQi κ D tys A post w1 n k) ws n k pc lv [.int v] :=
  fun H locs ls hK hP hD hS hl => W.zret h.1 h.2.1 h.2.2.2.2.2.2.2.2.1 hn (fun t ht hW => ⟨⟨v, u, rfl, hp, by show xWld D tys A (w1 u) t; rw [← hw]; exact ⟨by rw [ht]; exact hP, va_K.moved hW.alike hK, hD⟩⟩, hS.F ht⟩) hS.2.2 hd h.2.2.2.2.2.2.2.1
theorem xvret (h : XC κ cc nL none own Ts R A) {S : Type} {post : S → Prop} {w1 : S → va_W} (hd : decode cc pc = .ok (.return_, 1)) (u : S) (hp : post u) (hw : ws = w1 u) : XG κ nL D tys A (xQv κ D tys A post w1 n k) ws n k pc lv [] :=
  fun H locs ls hK hP hD hS hl => W.vret h.1 h.2.1 h.2.2.2.2.2.2.2.2.1 (fun t ht hW => ⟨⟨u, rfl, hp, by show xWld D tys A (w1 u) t; rw [← hw]; exact ⟨by rw [ht]; exact hP, va_K.moved hW.alike hK, hD⟩⟩, hS.F ht⟩) hS.2.2 hd h.2.2.2.2.2.2.2.1
end XR1
section XK1
variable {κ : Cx} {cc : ByteArray} {nL : Nat} {ret : Option FieldType} {own : String} {Ts : List Cond} {R : Room} {D : va_G} {tys : List (ClassId × FieldType)} {A : Nat → Prop} {Q : State → Prop} {ws wc wr : va_W} {n k pc mc ms : Nat} {lv : List (Nat × Value)} {st0 rest : List Value} {a : Array Value}
/-- where the callee's cells lie among the caller's: isC theirs, isR the rest, isB both back in order -/
def xCut (ws wc wr : va_W) (isC isR : List Nat) : Prop := isC.map (fun i => ws[i]?) = wc.map some ∧ isR.map (fun i => ws[i]?) = wr.map some ∧ va_nd isC = true ∧ va_nd isR = true ∧ (isR.all fun i => !(isC.contains i)) = true
def xBk (wr w1 w2 : va_W) (isB : List Nat) : Prop := isB.map (fun i => (wr ++ w1)[i]?) = w2.map some ∧ va_nd isB = true
theorem va_P.subm {D : va_G} {cl : List vw_C} {ws ws' : va_W} {H : Heap} (h : va_P D cl ws H) (is : List Nat) (hs : is.map (fun i => ws[i]?) = ws'.map some) : va_P D cl ws' H := h.sub is (by
  clear h
  induction is generalizing ws' with
  | nil => cases ws' with
    | nil => rfl
    | cons b l => simp at hs
  | cons i is ih => cases ws' with
    | nil => simp at hs
    | cons b l =>
      simp only [List.map_cons, List.cons.injEq] at hs
      rw [List.filterMap_cons, hs.1, ih hs.2])
theorem xcall_i {S : Type} {post : Int32 → S → Prop} {w1 w2 : S → va_W} (h : XC κ cc nL ret own Ts R A) (isC isR isB : List Nat) (hcut : xCut ws wc wr isC isR) (hbk : ∀ u, xBk wr (w1 u) (w2 u) isB)
    (hrun : ∀ (H : Heap) (locs : List Loc) (ls : Array Slot), va_K D vwCl tys (xS κ) → va_P D vwCl wc H → va_D (fun _ => True) wc → va_S A (xS κ).heap H locs → (∀ q : Nat, va_A wc H.size q → A q) → ls.size = nL → va_Run (xP κ) (xL κ) (xE κ) (xR κ) (xS κ) (xM κ) (xA κ) (xB κ) (xMe κ) (xC κ) H locs n k mc ms (F0 (xM κ) pc ls st0) rest (va_Qi post (fun u t => xWld D tys (va_A wc H.size) (w1 u) t) (va_A wc H.size) a) (va_A wc H.size))
    (kk : ∀ (r : Int32) (u : S), post r u → XG κ nL D tys A Q (w2 u) (n + mc) (k + ms) (pc + 3) lv (.int r :: rest)) : XG κ nL D tys A Q ws n k pc lv st0 := by
  intro H locs ls hK hP hD hS hl
  obtain ⟨c1, c2, c3, c4, c5⟩ := hcut
  have hF : ∀ q : Nat, va_A wc H.size q → A q := va_free hD hS h.2.2.2.2.2.1 isC c1
  refine va_calli (hrun H locs ls hK (hP.subm isC c1) ((hD.sub isC c3 c1).weaken (fun _ _ _ _ => trivial)) hS hF hl.1) hS (fun q _ z => hF q z) hF (fun r u t H1 locs1 ht hvm hp hB hz hk hS1 => ?_)
  obtain ⟨b1, b2, b3⟩ := hB
  rw [ht] at b1
  obtain ⟨d1, d2⟩ := va_join hP hD isC isR c1 c2 c4 (fun i hi hc => by
    have := List.all_eq_true.mp c5 i hi
    rw [Bool.not_eq_true', List.contains_eq_mem, decide_eq_false_iff_not] at this
    exact this hc) hk hF b1 b3
  exact kk r u hp H1 locs1 ls hK (d1.subm isB (hbk u).1) (d2.sub isB (hbk u).2 (hbk u).1) hS1 hl
theorem xcall_v {S : Type} {post : S → Prop} {w1 w2 : S → va_W} (h : XC κ cc nL ret own Ts R A) (isC isR isB : List Nat) (hcut : xCut ws wc wr isC isR) (hbk : ∀ u, xBk wr (w1 u) (w2 u) isB)
    (hrun : ∀ (H : Heap) (locs : List Loc) (ls : Array Slot), va_K D vwCl tys (xS κ) → va_P D vwCl wc H → va_D (fun _ => True) wc → va_S A (xS κ).heap H locs → (∀ q : Nat, va_A wc H.size q → A q) → ls.size = nL → va_Run (xP κ) (xL κ) (xE κ) (xR κ) (xS κ) (xM κ) (xA κ) (xB κ) (xMe κ) (xC κ) H locs n k mc ms (F0 (xM κ) pc ls st0) rest (va_Qv post (fun u t => xWld D tys (va_A wc H.size) (w1 u) t) (va_A wc H.size) a) (va_A wc H.size))
    (kk : ∀ (u : S), post u → XG κ nL D tys A Q (w2 u) (n + mc) (k + ms) (pc + 3) lv rest) : XG κ nL D tys A Q ws n k pc lv st0 := by
  intro H locs ls hK hP hD hS hl
  obtain ⟨c1, c2, c3, c4, c5⟩ := hcut
  have hF : ∀ q : Nat, va_A wc H.size q → A q := va_free hD hS h.2.2.2.2.2.1 isC c1
  refine va_callv (hrun H locs ls hK (hP.subm isC c1) ((hD.sub isC c3 c1).weaken (fun _ _ _ _ => trivial)) hS hF hl.1) hS (fun q _ z => hF q z) hF (fun u t H1 locs1 ht hvm hp hB hz hk hS1 => ?_)
  obtain ⟨b1, b2, b3⟩ := hB
  rw [ht] at b1
  obtain ⟨d1, d2⟩ := va_join hP hD isC isR c1 c2 c4 (fun i hi hc => by
    have := List.all_eq_true.mp c5 i hi
    rw [Bool.not_eq_true', List.contains_eq_mem, decide_eq_false_iff_not] at this
    exact this hc) hk hF b1 b3
  exact kk u hp H1 locs1 ls hK (d1.subm isB (hbk u).1) (d2.sub isB (hbk u).2 (hbk u).1) hS1 hl
end XK1
