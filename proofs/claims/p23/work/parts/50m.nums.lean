/-! P23, PURE: numbers, and the bits of the sessions that are stale -/
theorem nI_div {a b : Nat} (ha : a < 2 ^ 31) (hb : b < 2 ^ 31) (h0 : 0 < b) : nI a / nI b = nI (a / b) := by
  apply Int32.toInt_inj.mp
  have h1 : a / b < 2 ^ 31 := Nat.lt_of_le_of_lt (Nat.div_le_self a b) ha
  rw [Int32.toInt_div, nI_toInt ha, nI_toInt hb, nI_toInt h1, ← Int.ofNat_tdiv]
  generalize a / b = q at h1 ⊢
  exact Int.bmod_eq_of_le (by omega) (by omega)
theorem nI_rem {a b : Nat} (ha : a < 2 ^ 31) (hb : b < 2 ^ 31) (h0 : 0 < b) : nI a - nI a / nI b * nI b = nI (a % b) := by
  rw [nI_div ha hb h0, nI_mul, nI_subN (Nat.div_mul_le_self a b)]
  have h := Nat.div_add_mod a b
  rw [Nat.mul_comm] at h
  rw [show a - a / b * b = a % b by omega]
def mk3 (x y z : Bool) : Int32 := nI ((if x = true then 1 else 0) + (if y = true then 2 else 0) + (if z = true then 4 else 0))
def msk (b : Nat → Bool) : Int32 := mk3 (b 0) (b 1) (b 2)
theorem mk3_g0 (x y z : Bool) : (mk3 x y z >>> (nI 0 &&& 31)) &&& (1 : Int32) = bI x := by
  cases x <;> cases y <;> cases z <;> decide +kernel
theorem mk3_c0 (x y z : Bool) : mk3 x y z &&& (((1 : Int32) <<< (nI 0 &&& 31)) ^^^ (-1)) = mk3 false y z := by
  cases x <;> cases y <;> cases z <;> decide +kernel
theorem mk3_s0 (x y z : Bool) : mk3 x y z ||| ((7 : Int32) &&& (((1 : Int32) <<< (nI 0 &&& 31)) ^^^ (-1))) = mk3 x true true := by
  cases x <;> cases y <;> cases z <;> decide +kernel
theorem mk3_g1 (x y z : Bool) : (mk3 x y z >>> (nI 1 &&& 31)) &&& (1 : Int32) = bI y := by
  cases x <;> cases y <;> cases z <;> decide +kernel
theorem mk3_c1 (x y z : Bool) : mk3 x y z &&& (((1 : Int32) <<< (nI 1 &&& 31)) ^^^ (-1)) = mk3 x false z := by
  cases x <;> cases y <;> cases z <;> decide +kernel
theorem mk3_s1 (x y z : Bool) : mk3 x y z ||| ((7 : Int32) &&& (((1 : Int32) <<< (nI 1 &&& 31)) ^^^ (-1))) = mk3 true y true := by
  cases x <;> cases y <;> cases z <;> decide +kernel
theorem mk3_g2 (x y z : Bool) : (mk3 x y z >>> (nI 2 &&& 31)) &&& (1 : Int32) = bI z := by
  cases x <;> cases y <;> cases z <;> decide +kernel
theorem mk3_c2 (x y z : Bool) : mk3 x y z &&& (((1 : Int32) <<< (nI 2 &&& 31)) ^^^ (-1)) = mk3 x y false := by
  cases x <;> cases y <;> cases z <;> decide +kernel
theorem mk3_s2 (x y z : Bool) : mk3 x y z ||| ((7 : Int32) &&& (((1 : Int32) <<< (nI 2 &&& 31)) ^^^ (-1))) = mk3 true true z := by
  cases x <;> cases y <;> cases z <;> decide +kernel
theorem msk_get {b : Nat → Bool} {i : Nat} (hi : i < 3) : (msk b >>> (nI i &&& 31)) &&& (1 : Int32) = bI (b i) := by
  rcases (show i = 0 ∨ i = 1 ∨ i = 2 by omega) with rfl | rfl | rfl
  · exact mk3_g0 _ _ _
  · exact mk3_g1 _ _ _
  · exact mk3_g2 _ _ _
theorem msk_e {b d : Nat → Bool} (h : ∀ a, a < 3 → b a = d a) : msk b = msk d := by
  unfold msk
  rw [h 0 (by decide), h 1 (by decide), h 2 (by decide)]
def bClr (b : Nat → Bool) (i : Nat) : Nat → Bool := fun a => if a = i then false else b a
def bSet (b : Nat → Bool) (i : Nat) : Nat → Bool := fun a => if a = i then b a else true
theorem msk_clr {b : Nat → Bool} {i : Nat} (hi : i < 3) : msk b &&& (((1 : Int32) <<< (nI i &&& 31)) ^^^ (-1)) = msk (bClr b i) := by
  rcases (show i = 0 ∨ i = 1 ∨ i = 2 by omega) with rfl | rfl | rfl
  · exact mk3_c0 _ _ _
  · exact mk3_c1 _ _ _
  · exact mk3_c2 _ _ _
theorem msk_set {b : Nat → Bool} {i : Nat} (hi : i < 3) : msk b ||| ((7 : Int32) &&& (((1 : Int32) <<< (nI i &&& 31)) ^^^ (-1))) = msk (bSet b i) := by
  rcases (show i = 0 ∨ i = 1 ∨ i = 2 by omega) with rfl | rfl | rfl
  · exact mk3_s0 _ _ _
  · exact mk3_s1 _ _ _
  · exact mk3_s2 _ _ _
/-- a name set and set back -/
theorem nm_dy {z : cZ} {i k j : Nat} (hq : cEq z) (hi : i < 3) (hk : k < 2) (hj : j < zN z k) (nm : Int32) : tot fDy i (kNm i k j nm z) ≤ tot fDy i z + 1 ∧ tot fDy i z ≤ tot fDy i (kNm i k j nm z) + 1 ∧ (nm = eNm (zE z (sL i k) j) → tot fDy i (kNm i k j nm z) = tot fDy i z) := by
  have u := zU_E (z := z) (i := i) (k := k) (j := j) (v := fNm (zE z (sL i k) j) nm) hk
  have t := dy_1 (f := fDy) u hi hk (by rw [hq i k hi hk]; exact hj)
  refine ⟨t.1, t.2.1, fun e => t.2.2 ?_⟩
  rw [e]
  rfl
theorem nm_kn {z : cZ} {i k j : Nat} (hi : i < 3) (hk : k < 2) (nm : Int32) : (∀ c, zE (kNm i k j nm z) (sL i k) c = if c = j then fNm (zE z (sL i k) j) nm else zE z (sL i k) c) := fun c => by
  have u := zU_E (z := z) (i := i) (k := k) (j := j) (v := fNm (zE z (sL i k) j) nm) hk
  have h := u.2.2 i k c hi hk
  show zE (sE z (sL i k) j (fNm (zE z (sL i k) j) nm)) (sL i k) c = _
  rw [h]
  by_cases e : c = j
  · rw [if_pos e, if_pos ⟨rfl, rfl, e⟩]
  · rw [if_neg e, if_neg (fun q => e q.2.2)]
/-- twice: only the last one stays -/
theorem nm_2 {z : cZ} {i k j : Nat} (hq : cEq z) (hi : i < 3) (hk : k < 2) (hj : j < zN z k) (a b : Int32) : tot fDy i (kNm i k j b (kNm i k j a z)) = tot fDy i (kNm i k j b z) := by
  have hj2 : j < zN z (sL i k) := by rw [hq i k hi hk]; exact hj
  have u1 := zU_E (z := z) (i := i) (k := k) (j := j) (v := fNm (zE z (sL i k) j) a) hk
  have u2 := zU_E (z := kNm i k j a z) (i := i) (k := k) (j := j) (v := fNm (zE (kNm i k j a z) (sL i k) j) b) hk
  have u3 := zU_E (z := z) (i := i) (k := k) (j := j) (v := fNm (zE z (sL i k) j) b) hk
  have e1 : zE (kNm i k j a z) (sL i k) j = fNm (zE z (sL i k) j) a := by rw [nm_kn hi hk, if_pos rfl]
  refine tot_eq rfl (fun c d hc _ => ?_)
  have g2 := u2.2.2 i c d hi hc
  have g3 := u3.2.2 i c d hi hc
  have g1 := u1.2.2 i c d hi hc
  show fDy (zE (sE (kNm i k j a z) (sL i k) j (fNm (zE (kNm i k j a z) (sL i k) j) b)) (sL i c) d) = fDy (zE (sE z (sL i k) j (fNm (zE z (sL i k) j) b)) (sL i c) d)
  rw [g2, g3]
  by_cases q : i = i ∧ c = k ∧ d = j
  · rw [if_pos q, if_pos q, e1]
    rfl
  · rw [if_neg q, if_neg q]
    show fDy (zE (sE z (sL i k) j (fNm (zE z (sL i k) j) a)) (sL i c) d) = _
    rw [g1, if_neg q]
theorem nm_id {z : cZ} {i k j : Nat} (hq : cEq z) (hi : i < 3) (hk : k < 2) (hj : j < zN z k) {a : Int32} (h : a = eNm (zE z (sL i k) j)) : tot fDy i (kNm i k j a z) = tot fDy i z := (nm_dy hq hi hk hj a).2.2 h
/-- a reference set -/
theorem rf_dy {z : cZ} {i k j : Nat} (hq : cEq z) (hi : i < 3) (hk : k < 2) (hj : j < zN z k) (rf : Int32) : tot fDy i (kRf i k j rf z) ≤ tot fDy i z + 1 ∧ tot fDy i z ≤ tot fDy i (kRf i k j rf z) + 1 ∧ (rf = eRf (zE z (sL i k) j) → tot fDy i (kRf i k j rf z) = tot fDy i z) := by
  have u := zU_E (z := z) (i := i) (k := k) (j := j) (v := fRf (zE z (sL i k) j) rf) hk
  have t := dy_1 (f := fDy) u hi hk (by rw [hq i k hi hk]; exact hj)
  refine ⟨t.1, t.2.1, fun e => t.2.2 ?_⟩
  rw [e]
  rfl
