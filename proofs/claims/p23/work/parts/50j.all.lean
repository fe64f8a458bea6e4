/-! P23, PURE: all that holds between the law's steps: n, how many keys; w, how many writes at most -/
def jH (P : Nat → Prop) (n w : Nat) (z : cZ) : Prop := cEq z ∧ (∀ u, u < 8 → zN z u ≤ n) ∧ jK P z ∧ jJ z ∧ PT w z
theorem jH.n8 {P : Nat → Prop} {n w : Nat} {z : cZ} (h : jH P n w z) (hn : n ≤ 1024) : ∀ u, u < 8 → zN z u ≤ 1024 := fun u hu => Nat.le_trans (h.2.1 u hu) hn
theorem jH.mono {P P1 : Nat → Prop} {n w n1 w1 : Nat} {z : cZ} (h : jH P n w z) (hp : ∀ a, a < 3 → P1 a → P a) (hn : n ≤ n1) (hw : w ≤ w1) : jH P1 n1 w1 z := ⟨h.1, fun u hu => Nat.le_trans (h.2.1 u hu) hn, h.2.2.1.mono hp, h.2.2.2.1, h.2.2.2.2.le hw⟩
theorem jH.sm {P P1 : Nat → Prop} {n w w1 : Nat} {z z1 : cZ} (h : jH P n w z) (s : zS z z1) (hK : jK P1 z1) (hP : PT w1 z1) : jH P1 n w1 z1 := ⟨cEq_N s.1 h.1, by rw [s.1]; exact h.2.1, hK, h.2.2.2.1.s s, hP⟩
theorem jH.fi {P : Nat → Prop} {n w : Nat} {z : cZ} (h : jH P n w z) (hn : n ≤ 1024) {i k : Nat} (hi : i < 3) (hk : k < 2) (ky : Int32) : jH P n w (kFi i k ky z) :=
  h.sm zS.fi (h.2.2.1.fi h.1 (h.n8 hn) hi hk ky) (h.2.2.2.2.fi h.1 (h.n8 hn) hi hk ky)
theorem jH.lds {P : Nat → Prop} {n w : Nat} {z : cZ} (h : jH P n w z) {i k : Nat} (hi : i < 3) (hk : k < 2) (t : Int32) : jH P n w (itr (kLd i k t) (zN z k) z) :=
  h.sm (zS.it zS.ld _ _) (h.2.2.1.lds hi hk t (Nat.le_refl _)) (Q_it (Q := PT w) (N0 := zN z) (kLd_N i k t) (fun j z2 hj hz2 h2 => h2.lod hi hk (by rw [hz2]; exact hj) t) rfl h.2.2.2.2)
theorem jH.nm {P : Nat → Prop} {n w : Nat} {z : cZ} (h : jH P n w z) {i k j : Nat} (hi : i < 3) (hk : k < 2) (hj : j < zN z k) {nm : Int32} (hm : nOK nm = true) : jH P n (w + 2) (kNm i k j nm z) :=
  h.sm zS.e (h.2.2.1.nm hi hk hj hm) (h.2.2.2.2.set hi hk hj)
theorem jH.rf {P : Nat → Prop} {n w : Nat} {z : cZ} (h : jH P n w z) (hn : n ≤ 1024) {i k j : Nat} (hi : i < 3) (hk : k < 2) (hj : j < zN z k) {rf9 : Int32} (hr : (rf9 = -1 ∧ k = 0) ∨ ∃ q, q < zN z (1 - k) ∧ rf9 = nI q ∧ fLive (zE z (sL i (1 - k)) q) = true) : jH P n (w + 2) (kRf i k j rf9 z) :=
  h.sm zS.e (h.2.2.1.rf (h.n8 hn) hi hk hj hr) (h.2.2.2.2.set hi hk hj)
theorem jH.rmB {P : Nat → Prop} {n w : Nat} {z : cZ} (h : jH P n w z) (hn : n ≤ 1024) {i b : Nat} (hi : i < 3) (hb : b < zN z 1) : jH P n w (kRmB i b z) :=
  h.sm zS.rmB (h.2.2.1.rmB h.1 (h.n8 hn) hi hb) (h.2.2.2.2.rmB h.1 hi hb)
theorem jH.rmA {P : Nat → Prop} {n w : Nat} {z : cZ} (h : jH P n w z) (hn : n ≤ 1024) {i a : Nat} (hi : i < 3) (ha : a < zN z 0) : jH P n w (kRmA i a z) :=
  h.sm zS.rmA (h.2.2.1.rmA h.1 (h.n8 hn) hi ha) (h.2.2.2.2.rmA h.1 hi ha)
theorem jH.cr {P : Nat → Prop} {n w : Nat} {z : cZ} (h : jH P n w z) {i : Nat} (hi : i < 3) : jH (fun a => P a ∨ a = i) n w (kCr i z) :=
  h.sm zS.cr (h.2.2.1.cr h.1 hi) (h.2.2.2.2.fgs h.1 hi)
theorem jH.mk {P : Nat → Prop} {n w : Nat} {z : cZ} (h : jH P n w z) (hn : n ≤ 1024) {i k : Nat} (hi : i < 3) (hk : k < 2) {nm rf9 : Int32} (hr : (rf9 = -1 ∧ k = 0) ∨ ∃ q, q < zN z (1 - k) ∧ rf9 = nI q ∧ fLive (zE z (sL i (1 - k)) q) = true) (hm : nOK nm = true) : jH P (n + 1) (w + 4) (kMk i k nm rf9 z) :=
  have s := kMk_S (i := i) (nm := nm) (rf := rf9) hk h.1
  ⟨s.1, fun u hu => Nat.le_trans (s.2 u hu) (Nat.succ_le_succ (h.2.1 u hu)), h.2.2.1.mk h.1 (h.n8 hn) hi hk hr hm, h.2.2.2.1.mk (h.n8 hn) hk, h.2.2.2.2.mk h.1 hi hk nm rf9⟩
theorem jH.W {P : Nat → Prop} {n w : Nat} {z : cZ} (h : jH P n w z) : zW z ≤ w := Nat.le_trans (Nat.le_add_right _ _) h.2.2.2.2.2
/-- a flush of a session that isn't stale -/
theorem jH.ok {P : Nat → Prop} {n w : Nat} {z : cZ} (h : jH P n w z) (hn : n ≤ 1024) {i : Nat} (hi : i < 3) (hp : P i) : (kCla i z || kDan i z) = false := fl_ok h.2.2.1.1 (h.2.2.1.2 i hi hp) h.1 (h.n8 hn) hi
theorem jH.fl {P : Nat → Prop} {n w : Nat} {z : cZ} (h : jH P n w z) (hn : n ≤ 1024) (hw : w < 2 ^ 30) {i : Nat} (hi : i < 3) (hp : P i) : jH (fun a => a = i ∨ (kFl i z = z ∧ P a)) n w (kFl i z) :=
  have N := kFl_N i z
  ⟨cEq_N N h.1, by rw [N]; exact h.2.1, ⟨(h.2.2.1.fl h.1 (h.n8 hn) hi hp).1, fun a ha q => by
    rcases q with q | ⟨q, hpa⟩
    · exact (h.2.2.1.fl h.1 (h.n8 hn) hi hp).2 a ha q
    · rw [q]
      exact h.2.2.1.2 a ha hpa⟩, (jQ.fl ⟨(h.2.2.1.2 i hi hp).1, h.2.2.2.1⟩ h.1 (h.n8 hn) hi).2, h.2.2.2.2.fl hw h.1 hi (h.ok hn hi hp)⟩
/-- a row's version isn't negative -/
theorem jH.ver {P : Nat → Prop} {n w : Nat} {z : cZ} (h : jH P n w z) {k j : Nat} (hk : k < 2) (hj : j < zN z k) : ∃ v, v ≤ w ∧ (zR z k j).2.2.2 = nI v := by
  obtain ⟨-, -, v, hv, e, -⟩ := h.2.2.2.2.1 k j hk hj
  exact ⟨v, Nat.le_trans hv h.W, e⟩
