/-! NUMBERS, rows and switches told in Nat -/
abbrev xT (cI cC : ClassId) : List (ClassId × FieldType) := [(cI, .int), (cC, .char)]
abbrev xE0 : State → Prop := fun _ => True
abbrev TT : Type := Nat → Nat → Nat
def upN (G : Nat → Nat) (i v : Nat) : Nat → Nat := fun b => bif Nat.beq b i then v else G b
def up2 (T : TT) (j i v : Nat) : TT := fun a b => bif (Nat.beq a j && Nat.beq b i) then v else T a b
theorem upN_s (G : Nat → Nat) (i v : Nat) : upN G i v i = v := by simp [upN]
theorem beqF {a b : Nat} (h : a ≠ b) : Nat.beq a b = false := by rw [← Bool.not_eq_true, Nat.beq_eq]; exact h
theorem beqT {a b : Nat} (h : a = b) : Nat.beq a b = true := by rw [Nat.beq_eq]; exact h
theorem upN_n (G : Nat → Nat) {i j : Nat} (v : Nat) (h : j ≠ i) : upN G i v j = G j := by simp [upN, beqF h]
theorem up2_s (T : TT) (j i v : Nat) : up2 T j i v j i = v := by simp [up2]
theorem up2_r (T : TT) {j i v a b : Nat} (h : a ≠ j) : up2 T j i v a b = T a b := by simp [up2, beqF h]
theorem up2_c (T : TT) {j i v a b : Nat} (h : b ≠ i) : up2 T j i v a b = T a b := by simp [up2, beqF h]
theorem nI_upd (G : Nat → Nat) (i v : Nat) : upd (fun j => nI (G j)) i (nI v) = fun j => nI (upN G i v j) := by
  funext j
  by_cases h : j = i
  · subst h; simp [upd, upN]
  · simp [upd, upN, beqF h, h]
theorem nx_or (a b : Nat) : nI a ||| nI b = nI (a ||| b) := by
  apply Int32.toBitVec_inj.mp
  show (BitVec.ofNat 32 a ||| BitVec.ofNat 32 b) = BitVec.ofNat 32 (a ||| b)
  apply BitVec.eq_of_getLsbD_eq
  intro i hi
  simp [BitVec.getLsbD_ofNat, Nat.testBit_or, hi]
theorem nx_and (a b : Nat) : nI a &&& nI b = nI (a &&& b) := by
  apply Int32.toBitVec_inj.mp
  show (BitVec.ofNat 32 a &&& BitVec.ofNat 32 b) = BitVec.ofNat 32 (a &&& b)
  apply BitVec.eq_of_getLsbD_eq
  intro i hi
  simp [BitVec.getLsbD_ofNat, Nat.testBit_and, hi]
/-- and-not below 256 -/
theorem nx_andn {b : Nat} (a : Nat) (ha : a < 256) : nI a &&& (nI b ^^^ (-1)) = nI (a &&& (255 ^^^ (b &&& 255))) := by
  apply Int32.toBitVec_inj.mp
  show (BitVec.ofNat 32 a &&& (BitVec.ofNat 32 b ^^^ BitVec.allOnes 32)) = BitVec.ofNat 32 (a &&& (255 ^^^ (b &&& 255)))
  apply BitVec.eq_of_getLsbD_eq
  intro i hi
  have e255 : Nat.testBit 255 i = decide (i < 8) := by
    have : (255 : Nat) = 2 ^ 8 - 1 := rfl
    rw [this, Nat.testBit_two_pow_sub_one]
  rw [BitVec.getLsbD_and, BitVec.getLsbD_xor, BitVec.getLsbD_allOnes, BitVec.getLsbD_ofNat, BitVec.getLsbD_ofNat, BitVec.getLsbD_ofNat, Nat.testBit_and, Nat.testBit_xor, Nat.testBit_and, e255]
  by_cases h8 : i < 8
  · simp [hi, h8]
  · have : Nat.testBit a i = false := Nat.testBit_lt_two_pow (Nat.lt_of_lt_of_le ha (Nat.pow_le_pow_right (n := 2) (show 0 < 2 by decide) (show 8 ≤ i by omega)))
    simp [this]
theorem nI_shl1 : ∀ p, p < 31 → nI 1 <<< (nI p &&& 31) = nI (2 ^ p) := by decide +kernel
theorem nI_shr : ∀ p, p < 31 → ∀ S, S < 2 ^ 31 → nI S >>> (nI p &&& 31) = nI (S / 2 ^ p) := by
  intro p hp S hS
  refine pk_shrN hS _ p ?_
  have : ∀ p, p < 31 → ((nI p &&& 31).toBitVec.smod 32).toNat = p := by decide +kernel
  exact this p hp
theorem nI_max {a b : Nat} (ha : a < 2 ^ 31) (hb : b < 2 ^ 31) : (if nI a < nI b then nI b else nI a) = nI (Nat.max a b) := by
  by_cases h : a < b
  · rw [if_pos ((nI_ltI ha hb).mpr h)]; congr 1; exact (Nat.max_eq_right (Nat.le_of_lt h)).symm
  · rw [if_neg (fun z => h ((nI_ltI ha hb).mp z))]; congr 1; exact (Nat.max_eq_left (Nat.le_of_not_lt h)).symm
theorem nI_min {a b : Nat} (ha : a < 2 ^ 31) (hb : b < 2 ^ 31) : (if nI b < nI a then nI b else nI a) = nI (Nat.min a b) := by
  by_cases h : b < a
  · rw [if_pos ((nI_ltI hb ha).mpr h)]; congr 1; exact (Nat.min_eq_right (Nat.le_of_lt h)).symm
  · rw [if_neg (fun z => h ((nI_ltI hb ha).mp z))]; congr 1; exact (Nat.min_eq_left (Nat.le_of_not_lt h)).symm
section XN1
variable {κ : Cx} {cc : ByteArray} {nL : Nat} {ret : Option FieldType} {own : String} {Ts : List Cond} {R : Room} {D : va_G} {tys : List (ClassId × FieldType)} {A : Nat → Prop} {Q : State → Prop} {ws ws' : va_W} {n k pc : Nat} {lv lv' : List (Nat × Value)} {st : List Value}
theorem xiastN (h : XC κ cc nL ret own Ts R A) (q0 t0 : Nat) {cA : ClassId} {z a i x : Nat} {G : Nat → Nat} (ha : ws[q0]? = some (a, .inl (cA, z, .inl (fun j => nI (G j))))) (ht : tys[t0]? = some (cA, .int)) (hi : i < z) (hz : z < 2 ^ 31) (hd : decode cc pc = .ok (.iastore, 1)) (hws : ws.set q0 (a, .inl (cA, z, .inl (fun j => nI (upN G i x j)))) = ws') (kk : XG κ nL D tys A Q ws' n k (pc + 1) lv st) : XG κ nL D tys A Q ws n k pc lv (.int (nI x) :: .int (nI i) :: .ref a :: st) :=
  xiast h q0 t0 ha ht hi hz hd (by rw [nI_upd]; exact hws) kk
theorem xcastN (h : XC κ cc nL ret own Ts R A) (q0 t0 : Nat) {cA : ClassId} {z a i x : Nat} {G : Nat → Nat} (ha : ws[q0]? = some (a, .inl (cA, z, .inl (fun j => nI (G j))))) (ht : tys[t0]? = some (cA, .char)) (hi : i < z) (hz : z < 2 ^ 31) (hx : x < 65536) (hd : decode cc pc = .ok (.castore, 1)) (hws : ws.set q0 (a, .inl (cA, z, .inl (fun j => nI (upN G i x j)))) = ws') (kk : XG κ nL D tys A Q ws' n k (pc + 1) lv st) : XG κ nL D tys A Q ws n k pc lv (.int (nI x) :: .int (nI i) :: .ref a :: st) :=
  xcast h q0 t0 ha ht hi hz (by
    have := (pk_charN hx).1
    simp only [vp_nar, this]) hd (by rw [nI_upd]; exact hws) kk
theorem xtop {v v' : Int32} (e : v = v') (kk : XG κ nL D tys A Q ws n k pc lv (.int v' :: st)) : XG κ nL D tys A Q ws n k pc lv (.int v :: st) := e ▸ kk
theorem xtabN (h : XC κ cc nL ret own Ts R A) {dflt lo hi : Int} {offs : Array Int} {len a j : Nat} {off : Int} {tgt : Nat} (hd : decode cc pc = .ok (.tableswitch dflt lo hi offs, len)) (e : a = j) (h1 : ¬ (nI j).toInt < lo) (h2 : ¬ hi < (nI j).toInt) (ho : offs[((nI j).toInt - lo).toNat]? = some off) (ht : (pc : Int) + off = (tgt : Int)) (kk : XG κ nL D tys A Q ws n k tgt lv st) : XG κ nL D tys A Q ws n k pc lv (.int (nI a) :: st) := by
  subst e
  exact fun H locs ls hK hP hD hS hl => lv_tableIn h.1 h.2.1 hd h1 h2 ho ht (kk H locs ls hK hP hD hS hl)
theorem xtabI (h : XC κ cc nL ret own Ts R A) {dflt lo hi : Int} {offs : Array Int} {len j : Nat} {x : Int32} {off : Int} {tgt : Nat} (hd : decode cc pc = .ok (.tableswitch dflt lo hi offs, len)) (e : x = nI j) (h1 : ¬ (nI j).toInt < lo) (h2 : ¬ hi < (nI j).toInt) (ho : offs[((nI j).toInt - lo).toNat]? = some off) (ht : (pc : Int) + off = (tgt : Int)) (kk : XG κ nL D tys A Q ws n k tgt lv st) : XG κ nL D tys A Q ws n k pc lv (.int x :: st) := by
  subst e
  exact fun H locs ls hK hP hD hS hl => lv_tableIn h.1 h.2.1 hd h1 h2 ho ht (kk H locs ls hK hP hD hS hl)
theorem xtabIo (h : XC κ cc nL ret own Ts R A) {dflt lo hi : Int} {offs : Array Int} {len : Nat} {x : Int32} {tgt : Nat} (hd : decode cc pc = .ok (.tableswitch dflt lo hi offs, len)) (ho : x.toInt < lo ∨ hi < x.toInt) (ht : (pc : Int) + dflt = (tgt : Int)) (kk : XG κ nL D tys A Q ws n k tgt lv st) : XG κ nL D tys A Q ws n k pc lv (.int x :: st) :=
  fun H locs ls hK hP hD hS hl => lv_tableOut h.1 h.2.1 hd ho ht (kk H locs ls hK hP hD hS hl)
theorem xtabNo (h : XC κ cc nL ret own Ts R A) {dflt lo hi : Int} {offs : Array Int} {len a : Nat} {tgt : Nat} (hd : decode cc pc = .ok (.tableswitch dflt lo hi offs, len)) (ha : a < 2 ^ 31) (ho : hi < (a : Int)) (ht : (pc : Int) + dflt = (tgt : Int)) (kk : XG κ nL D tys A Q ws n k tgt lv st) : XG κ nL D tys A Q ws n k pc lv (.int (nI a) :: st) :=
  xtabIo h hd (Or.inr (by rw [nI_toInt ha]; exact ho)) ht kk
end XN1
