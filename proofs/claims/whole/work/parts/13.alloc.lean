/-! COPIES, new rows and objects; a row told by another function that agrees with it -/
theorem arrV_congr (cA : ClassId) (z : Nat) {f g : Nat → Value} (h : ∀ j, j < z → f j = g j) : arrV cA z f = arrV cA z g := by
  have e : (fun j : Fin z => f j.val) = (fun j : Fin z => g j.val) := funext fun j => h j.val j.isLt
  simp only [arrV, e]
theorem va_P.arr {D : va_G} {cl : List vw_C} {ws : va_W} {H : Heap} (hP : va_P D cl ws H) {q0 a z : Nat} {cA : ClassId} {f g : Nat → Int32} (he : ws[q0]? = some (a, .inl (cA, z, .inl f))) (hfg : ∀ j, j < z → f j = g j) : va_P D cl (ws.set q0 (a, .inl (cA, z, .inl g))) H := by
  intro k q hk
  by_cases hkq : k = q0
  · subst hkq
    have hlt : k < ws.length := (List.getElem?_eq_some_iff.mp he).1
    rw [List.getElem?_set_self hlt] at hk
    cases hk
    have h1 := hP k _ he
    have e : vp_cell cA (z, .inl f) = vp_cell cA (z, .inl g) := arrV_congr cA z (fun j hj => congrArg Value.int (hfg j hj))
    show H[a]? = some (vp_cell cA (z, .inl g))
    rw [← e]
    exact h1
  · rw [List.getElem?_set_ne (Ne.symm hkq)] at hk
    exact hP k q hk
section XA1
variable {κ : Cx} {cc : ByteArray} {nL : Nat} {ret : Option FieldType} {own : String} {Ts : List Cond} {R : Room} {D : va_G} {tys : List (ClassId × FieldType)} {A : Nat → Prop} {Q : State → Prop} {ws ws' : va_W} {n k pc : Nat} {lv : List (Nat × Value)} {rest : List Value}
theorem xarr {q0 a z : Nat} {cA : ClassId} {f g : Nat → Int32} (he : ws[q0]? = some (a, .inl (cA, z, .inl f))) (hfg : ∀ j, j < z → f j = g j) (hws : ws.set q0 (a, .inl (cA, z, .inl g)) = ws') (kk : XG κ nL D tys A Q ws' n k pc lv rest) : XG κ nL D tys A Q ws n k pc lv rest :=
  fun H locs ls hK hP hD hS hl => kk H locs ls hK (by rw [← hws]; exact hP.arr he hfg) (by rw [← hws]; exact hD.set he) hS hl
/-- System.arraycopy of a whole row -/
theorem xcopy (h : XC κ cc nL ret own Ts R A) {index : Nat} (hl2 : Cond.methodLink own index arraycopyName ∈ Ts) (hnat : Cond.native arraycopyName ∈ Ts) (hsta : Cond.static arraycopyName ∈ Ts) (hini : Cond.initialized "java/lang/System" ∈ Ts) (q0 q1 t0 : Nat) {a0 a1 z : Nat} {cA : ClassId} {f g : Nat → Int32} (ha0 : ws[q0]? = some (a0, .inl (cA, z, .inl f))) (ha1 : ws[q1]? = some (a1, .inl (cA, z, .inl g))) (ht0 : tys[t0]? = some (cA, .int)) (hz : z < 2 ^ 31) (hR : 1 ≤ R.frames ∧ (rest.map fun v => v.category).sum + (nativeFrameWords "java/lang/System" "arraycopy" 5 + 11) ≤ R.locals) (hd : decode cc pc = .ok (.invokestatic index, 3)) (hws : ws.set q1 (a1, .inl (cA, z, .inl f)) = ws') (kk : XG κ nL D tys A Q ws' n k (pc + 3) lv rest) : XG κ nL D tys A Q ws n k pc lv (.int (nI z) :: .int (nI 0) :: .ref a1 :: .int (nI 0) :: .ref a0 :: rest) := by
  intro H locs ls hK hP hD hS hl
  have hRR : xR κ = R := h.2.2.2.2.2.2.1
  have e0 : (nI 0).toNatClampNeg = 0 := nI_clamp (by decide)
  have ez : (nI z).toNatClampNeg = z := nI_clamp hz
  refine va_copyi h.1 h.2.1 (h.2.2.1.trans hl.1.symm) h.2.2.2.1 (h.2.2.2.2.1 _ hl2) (h.2.2.2.2.1 _ hnat) (h.2.2.2.2.1 _ hsta) (h.2.2.2.2.1 _ hini) hK hP hD hS q0 q1 t0 t0 ha0 ha1 ht0 ht0 rfl (nI_pos (by decide)) (nI_pos (by decide)) (nI_pos hz) (by rw [e0, ez]; omega) (by rw [e0, ez]; omega) (fun i hi => rfl) (by rw [hRR]; exact hR.1) (by rw [hRR]; exact hR.2) hd (fun H1 locs1 hP1 hD1 hS1 => ?_)
  rw [e0, ez] at hP1 hD1
  have hlt : q1 < ws.length := (List.getElem?_eq_some_iff.mp ha1).1
  have hg : (ws.set q1 (a1, .inl (cA, z, .inl (va_cpy f g 0 0 z))))[q1]? = some (a1, .inl (cA, z, .inl (va_cpy f g 0 0 z))) := List.getElem?_set_self hlt
  have hP2 := hP1.arr (g := f) hg (fun j hj => by rw [pk_cpy_in (Nat.zero_le j) (by omega)]; congr 1; omega)
  have hD2 := hD1.set (e := .inl (cA, z, .inl f)) hg
  rw [List.set_set] at hP2 hD2
  exact kk H1 locs1 ls hK (by rw [← hws]; exact hP2) (by rw [← hws]; exact hD2) hS1 hl
theorem xnewI (h : XC κ cc nL ret own Ts R A) (harr : Cond.arrayClass .int ∈ Ts) (t0 : Nat) {cA : ClassId} {z : Nat} (ht0 : tys[t0]? = some (cA, .int)) (hz : z ≤ 64) (hfit : n + 1 ≤ R.cells ∧ k + z ≤ R.slots) (hd : decode cc pc = .ok (.newarray .int, 2)) (kk : ∀ q : Nat, XG κ nL D tys A Q (ws ++ [(q, .inl (cA, z, .inl (fun _ => nI 0)))]) (n + 1) (k + z) (pc + 2) lv (.ref q :: rest)) : XG κ nL D tys A Q ws n k pc lv (.int (nI z) :: rest) := by
  intro H locs ls hK hP hD hS hl
  have hRR : xR κ = R := h.2.2.2.2.2.2.1
  have ez : (nI z).toNatClampNeg = z := nI_clamp (by omega)
  have hb8 : componentBytes FieldType.int ≤ 8 := by decide
  have hby : z * componentBytes FieldType.int ≤ 536870912 := Nat.le_trans (Nat.mul_le_mul hz hb8) (by decide)
  refine va_newa (atype := .int) (ty := .int) (N' := z) (a0 := (z, .inl (fun _ => nI 0))) h.1 h.2.1 (h.2.2.2.2.1 _ harr) rfl hK hP hD hS h.2.2.2.2.2.1 (fun cA => rfl) (nI_pos (by omega)) ez hby (by rw [hRR]; exact hfit.1) (by rw [hRR]; exact hfit.2) hd (fun q cB H1 hK1 hP1 hD1 hS1 => ?_)
  have e1 : (xS κ).vm.findClass "[I" = some cA := va_nm_int (hK.2 t0 _ ht0).2
  have hlast : (tys ++ [(cB, FieldType.int)])[tys.length]? = some (cB, .int) := by simp
  have e2 : (xS κ).vm.findClass "[I" = some cB := va_nm_int (hK1.2 tys.length _ hlast).2
  have e3 : cB = cA := Option.some.inj (e2.symm.trans e1)
  subst e3
  exact kk q H1 locs ls hK hP1 hD1 hS1 hl
theorem xnewC (h : XC κ cc nL ret own Ts R A) (harr : Cond.arrayClass .char ∈ Ts) (t0 : Nat) {cA : ClassId} {z : Nat} (ht0 : tys[t0]? = some (cA, .char)) (hz : z ≤ 64) (hfit : n + 1 ≤ R.cells ∧ k + z ≤ R.slots) (hd : decode cc pc = .ok (.newarray .char, 2)) (kk : ∀ q : Nat, XG κ nL D tys A Q (ws ++ [(q, .inl (cA, z, .inl (fun _ => nI 0)))]) (n + 1) (k + z) (pc + 2) lv (.ref q :: rest)) : XG κ nL D tys A Q ws n k pc lv (.int (nI z) :: rest) := by
  intro H locs ls hK hP hD hS hl
  have hRR : xR κ = R := h.2.2.2.2.2.2.1
  have ez : (nI z).toNatClampNeg = z := nI_clamp (by omega)
  have hb8 : componentBytes FieldType.char ≤ 8 := by decide
  have hby : z * componentBytes FieldType.char ≤ 536870912 := Nat.le_trans (Nat.mul_le_mul hz hb8) (by decide)
  refine va_newa (atype := .char) (ty := .char) (N' := z) (a0 := (z, .inl (fun _ => nI 0))) h.1 h.2.1 (h.2.2.2.2.1 _ harr) rfl hK hP hD hS h.2.2.2.2.2.1 (fun cA => rfl) (nI_pos (by omega)) ez hby (by rw [hRR]; exact hfit.1) (by rw [hRR]; exact hfit.2) hd (fun q cB H1 hK1 hP1 hD1 hS1 => ?_)
  have e1 : (xS κ).vm.findClass "[C" = some cA := va_nm_char (hK.2 t0 _ ht0).2
  have hlast : (tys ++ [(cB, FieldType.char)])[tys.length]? = some (cB, .char) := by simp
  have e2 : (xS κ).vm.findClass "[C" = some cB := va_nm_char (hK1.2 tys.length _ hlast).2
  have e3 : cB = cA := Option.some.inj (e2.symm.trans e1)
  subst e3
  exact kk q H1 locs ls hK hP1 hD1 hS1 hl
theorem xnew (h : XC κ cc nL ret own Ts R A) {C : String} {T : u_T} {N ci index : Nat} (hin : ∀ w ∈ u_ws C T N, w ∈ Ts) (ty : Nat → FieldType) (hty : ∀ k, k < N → parseFieldDescriptor (T k).2.2.1 = some (ty k)) (hcl : Cond.classLink own index C ∈ Ts) (hinst : Cond.instantiable C N ∈ Ts) (hini : Cond.initialized C ∈ Ts) (hc : vwCl[ci]? = some (C, T, N)) {fs : List Value} (hfs : ∀ j, j < N → defaultValue (ty j) = vp_V fs j) (hfit : n + 1 ≤ R.cells ∧ k + N ≤ R.slots) (hd : decode cc pc = .ok (.new index, 3)) (kk : ∀ q : Nat, XG κ nL D tys A Q (ws ++ [(q, .inr (ci, fs))]) (n + 1) (k + N) (pc + 3) lv (.ref q :: rest)) : XG κ nL D tys A Q ws n k pc lv rest := by
  intro H locs ls hK hP hD hS hl
  have hRR : xR κ = R := h.2.2.2.2.2.2.1
  exact va_new h.1 h.2.1 h.2.2.2.2.1 hin ty hty h.2.2.2.1 (h.2.2.2.2.1 _ hcl) (h.2.2.2.2.1 _ hinst) (h.2.2.2.2.1 _ hini) hK hP hD hS h.2.2.2.2.2.1 hc hfs (by rw [hRR]; exact hfit.1) (by rw [hRR]; exact hfit.2) hd (fun q H1 hP1 hD1 hS1 => kk q H1 locs ls hK hP1 hD1 hS1 hl)
theorem xobj (h : XC κ cc nL ret own Ts R A) {idx a : Nat} (hl2 : Cond.methodLink own idx objectInit ∈ Ts) (hin : Cond.instanceMethod objectInit ∈ Ts) (hcode : Cond.code objectInit ⟨#[0xb1]⟩ 1 none ∈ Ts) (hR : 1 ≤ R.frames ∧ 12 ≤ R.locals) (hd : decode cc pc = .ok (.invokespecial idx, 3)) (kk : XG κ nL D tys A Q ws n k (pc + 3) lv []) : XG κ nL D tys A Q ws n k pc lv [.ref a] := by
  intro H locs ls hK hP hD hS hl
  have hRR : xR κ = R := h.2.2.2.2.2.2.1
  refine W.objInit h.1 h.2.1 h.2.2.2.1 (h.2.2.2.2.1 _ hl2) (h.2.2.2.2.1 _ hin) (h.2.2.2.2.1 _ hcode) rfl (by rw [h.2.2.1]; exact hl.1) rfl hd (by rw [hRR]; exact hR.1) (by rw [hRR]; exact hR.2) ?_
  exact kk H locs ls hK hP hD hS hl
end XA1
