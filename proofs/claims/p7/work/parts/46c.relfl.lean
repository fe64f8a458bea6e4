/-! A FLUSH ON BOTH SIDES: what is removed in this session is followed by its flags alone -/
def rRf (b : Bool) (v : vR) (g : wR) : Prop := v.1 = decide (g.1 ≠ 0) ∧ (b = false → v.1 = true → v.2 = g.2)
def rEf (b : Bool) (v : vE) (o : wO) : Prop := (o.1 = 0 ∨ o.1 = 1 ∨ o.1 = 2) ∧ v.1 = decide (o.1 ≠ 0) ∧ v.2.1 = decide (o.2.1 ≠ 0) ∧ v.2.2.1 = decide (o.1 = 2) ∧ (v.2.1 = true → v.2.2.1 = true) ∧ (b = false → (v.1 = true → v.2.2.2.1 = o.2.2.1 ∧ v.2.2.2.2.1 = o.2.2.2.1) ∧ (v.2.2.1 = true → v.2.2.2.2.2 = o.2.2.2.2))
def gone (i : Nat) (z : cZ) (k j : Nat) : Bool := (zE z (sL i k) j).2.1
def RLf (i0 : Nat) (z : cZ) (w : mW) : Prop := (∀ k, k < 2 → zN z k = rdK w k) ∧ (∀ k j, k < 2 → j < zN z k → rRf (gone i0 z k j) (zR z k j) (gR w k j)) ∧ (∀ i k j, i < 3 → k < 2 → j < zN z k → rEf (decide (i = i0) && gone i0 z k j) (zE z (sL i k) j) (gO w i k j)) ∧ (∀ k j, k < 2 → zN z k ≤ j → j < 1024 → (gR w k j).1 = 0) ∧ (∀ i k j, i < 3 → k < 2 → zN z k ≤ j → j < 1024 → (gO w i k j).1 = 0 ∧ (gO w i k j).2.1 = 0) ∧ ∀ k, k < 2 → zN z k ≤ 1024
theorem RZ.f {z : cZ} {w : mW} (h : RZ z w) (i0 : Nat) : RLf i0 z w := by
  obtain ⟨h1, h2, h3, h4, h5, h6⟩ := h
  refine ⟨h1, fun k j hk hj => ⟨(h2 k j hk hj).1, fun _ => (h2 k j hk hj).2⟩, fun i k j hi hk hj => ?_, h4, h5, h6⟩
  obtain ⟨e0, e1, e2, e3, e4, e5, e6⟩ := h3 i k j hi hk hj
  exact ⟨e0, e1, e2, e3, e4, fun _ => ⟨e5, e6⟩⟩
theorem RLf.t {i0 : Nat} {z : cZ} {w : mW} (h : RLf i0 z w) (hg : ∀ k j, k < 2 → j < zN z k → gone i0 z k j = false) : RZ z w := by
  obtain ⟨h1, h2, h3, h4, h5, h6⟩ := h
  refine ⟨h1, fun k j hk hj => ⟨(h2 k j hk hj).1, (h2 k j hk hj).2 (hg k j hk hj)⟩, fun i k j hi hk hj => ?_, h4, h5, h6⟩
  obtain ⟨e0, e1, e2, e3, e4, e5⟩ := h3 i k j hi hk hj
  have e5 := e5 (by rw [hg k j hk hj, Bool.and_false])
  exact ⟨e0, e1, e2, e3, e4, e5.1, e5.2⟩
theorem zU.g {z z1 : cZ} {i k j : Nat} {r : vR} {e : vE} (h : zU z z1 i k j r e) (hi : i < 3) {b c : Nat} (hb : b < 2) : gone i z1 b c = if b = k ∧ c = j then e.2.1 else gone i z b c := by
  unfold gone
  rw [h.2.2 i b c hi hb]
  by_cases q : b = k ∧ c = j
  · rw [if_pos ⟨rfl, q.1, q.2⟩, if_pos q]
  · rw [if_neg (fun r => q r.2), if_neg q]
theorem RLf.up {z z1 : cZ} {w w1 : mW} {i k j : Nat} {r : vR} {e : vE} {r' : wR} {o' : wO} (h : RLf i z w) (uz : zU z z1 i k j r e) (uw : mU w w1 i k j r' o') (hi : i < 3) (hj : j < zN z k) (hr : rRf e.2.1 r r') (he : rEf e.2.1 e o') : RLf i z1 w1 := by
  obtain ⟨h1, h2, h3, h4, h5, h6⟩ := h
  refine ⟨fun b hb => by rw [uz.1, uw.1]; exact h1 b hb, fun b c hb hc => ?_, fun a b c ha hb hc => ?_, fun b c hb hc hc2 => ?_, fun a b c ha hb hc hc2 => ?_, fun b hb => by rw [uz.1]; exact h6 b hb⟩
  · rw [uz.1] at hc
    have := h6 b hb
    rw [uz.2.1 b c hb, uw.2.1 b c hb (by omega), uz.g hi hb]
    by_cases q : b = k ∧ c = j
    · rw [if_pos q, if_pos q, if_pos q]
      exact hr
    · rw [if_neg q, if_neg q, if_neg q]
      exact h2 b c hb hc
  · rw [uz.1] at hc
    have := h6 b hb
    rw [uz.2.2 a b c ha hb, uw.2.2 a b c ha hb (by omega), uz.g hi hb]
    by_cases q : b = k ∧ c = j
    · by_cases qa : a = i
      · simp only [if_pos (show a = i ∧ b = k ∧ c = j from ⟨qa, q⟩), if_pos q, decide_eq_true qa, Bool.true_and]
        exact he
      · simp only [if_neg (show ¬ (a = i ∧ b = k ∧ c = j) from fun r => qa r.1), decide_eq_false qa, Bool.false_and]
        have h9 := h3 a b c ha hb hc
        rw [decide_eq_false qa, Bool.false_and] at h9
        exact h9
    · simp only [if_neg (show ¬ (a = i ∧ b = k ∧ c = j) from fun r => q r.2), if_neg q]
      exact h3 a b c ha hb hc
  · rw [uz.1] at hc
    rw [uw.2.1 b c hb hc2, if_neg (fun q => by rw [q.1, q.2] at hc; omega)]
    exact h4 b c hb hc hc2
  · rw [uz.1] at hc
    rw [uw.2.2 a b c ha hb hc2, if_neg (fun q => by rw [q.2.1, q.2.2] at hc; omega)]
    exact h5 a b c ha hb hc hc2
/-- flags -/
theorem rEf.new {b : Bool} {v : vE} {o : wO} (h : rEf b v o) : fNew v = decide (o.1 = 1) := by
  obtain ⟨e0, e1, -, e3, -⟩ := h
  rw [show fNew v = (v.1 && !v.2.2.1) from rfl, e1, e3]
  rcases e0 with q | q | q <;> rw [q] <;> decide
theorem rEf.gn {b : Bool} {v : vE} {o : wO} (h : rEf b v o) : v.2.1 = (decide (o.1 = 2) && decide (o.2.1 ≠ 0)) := by
  obtain ⟨-, -, e2, e3, e4, -⟩ := h
  rw [← e2, ← e3]
  cases q : v.2.1
  · rw [Bool.and_false]
  · rw [e4 q]
    rfl
theorem rEf.b1 {b : Bool} {v : vE} {o : wO} (h : rEf b v o) (h3 : v.2.2.1 = true) : v.1 = true := by
  obtain ⟨-, e1, -, e3, -⟩ := h
  rw [h3] at e3
  rw [e1, of_decide_eq_true e3.symm]
  decide
theorem fNew_1 {v : vE} (h : fNew v = true) : v.1 = true ∧ v.2.2.1 = false := by
  have h9 : (v.1 && !v.2.2.1) = true := h
  rw [Bool.and_eq_true, Bool.not_eq_true'] at h9
  exact h9
theorem rEf.ng {b : Bool} {v : vE} {o : wO} (h : rEf b v o) (hn : fNew v = true) : v.2.1 = false := by
  cases q : v.2.1
  · rfl
  · have := h.2.2.2.2.1 q
    rw [(fNew_1 hn).2] at this
    exact absurd this (by decide)
theorem fChg_3 {v : vE} (h : fChg v = true) : v.2.2.1 = true := by
  obtain ⟨b1, b2, b3, nm, rf, sn, sr, sv⟩ := v
  have h9 : (b3 && (decide (nm ≠ sn) || decide (rf ≠ sr))) = true := h
  exact ((Bool.and_eq_true _ _).mp h9).1
theorem RLf.md {i : Nat} {z : cZ} {w : mW} (h : RLf i z w) (hi : i < 3) {k j : Nat} (hk : k < 2) (hj : j < zN z k) : mMd w i k j = fNew (zE z (sL i k) j) := (h.2.2.1 i k j hi hk hj).new.symm
theorem RLf.gn {i : Nat} {z : cZ} {w : mW} (h : RLf i z w) (hi : i < 3) {k j : Nat} (hk : k < 2) (hj : j < zN z k) : mGn w i k j = gone i z k j := (h.2.2.1 i k j hi hk hj).gn.symm
theorem RLf.kn {i : Nat} {z : cZ} {w : mW} (h : RLf i z w) (hi : i < 3) {k j : Nat} (hk : k < 2) (hj : j < zN z k) : mKn w i k (nI j) = fLive (zE z (sL i k) j) := by
  have hn := h.2.2.2.2.2 k hk
  have h1 := h.1 k hk
  obtain ⟨-, e1, e2, -⟩ := h.2.2.1 i k j hi hk hj
  rw [show fLive (zE z (sL i k) j) = ((zE z (sL i k) j).1 && !(zE z (sL i k) j).2.1) from rfl, e1, e2, Bool.eq_iff_iff, mKn_iff (by omega) (by omega), Bool.and_eq_true, Bool.not_eq_true', decide_eq_true_iff, decide_eq_false_iff_not]
  exact ⟨fun q => ⟨q.2.1, fun q2 => q2 q.2.2⟩, fun q => ⟨by omega, q.1, Classical.not_not.mp q.2⟩⟩
theorem RLf.ct {i : Nat} {z : cZ} {w : mW} (h : RLf i z w) (hi : i < 3) {k j : Nat} (hk : k < 2) (hj : j < zN z k) (hg : gone i z k j = false) : ((zE z (sL i k) j).1 = true → eNm (zE z (sL i k) j) = rdT w 9 (aP i k j) ∧ eRf (zE z (sL i k) j) = rdT w 10 (aP i k j)) ∧ ((zE z (sL i k) j).2.2.1 = true → (zE z (sL i k) j).2.2.2.2.2 = (rdT w 11 (aP i k j), rdT w 12 (aP i k j), rdT w 13 (aP i k j))) := (h.2.2.1 i k j hi hk hj).2.2.2.2.2 (by rw [hg, Bool.and_false])
theorem RLf.dr {i : Nat} {z : cZ} {w : mW} (h : RLf i z w) (hi : i < 3) {k j : Nat} (hk : k < 2) (hj : j < zN z k) : mDr w i k j = (fChg (zE z (sL i k) j) && !gone i z k j) := by
  have r := h.2.2.1 i k j hi hk hj
  unfold mDr
  rw [h.kn hi hk hj]
  cases hg : gone i z k j
  · have e7 := h.ct hi hk hj hg
    have e3 : (zE z (sL i k) j).2.2.1 = decide (rdT w 7 (aP i k j) = 2) := r.2.2.2.1
    have hg2 : (zE z (sL i k) j).2.1 = false := hg
    rw [show fChg (zE z (sL i k) j) = ((zE z (sL i k) j).2.2.1 && (decide (eNm (zE z (sL i k) j) ≠ (zE z (sL i k) j).2.2.2.2.2.1) || decide (eRf (zE z (sL i k) j) ≠ (zE z (sL i k) j).2.2.2.2.2.2.1))) from rfl, ← e3, show fLive (zE z (sL i k) j) = ((zE z (sL i k) j).1 && !(zE z (sL i k) j).2.1) from rfl, hg2]
    cases h3 : (zE z (sL i k) j).2.2.1
    · simp
    · have h1 := r.b1 h3
      have e8 := e7.2 h3
      rw [h1, (e7.1 h1).1, (e7.1 h1).2, show (zE z (sL i k) j).2.2.2.2.2.1 = rdT w 11 (aP i k j) from congrArg (fun q => q.1) e8, show (zE z (sL i k) j).2.2.2.2.2.2.1 = rdT w 12 (aP i k j) from congrArg (fun q => q.2.1) e8]
      simp
  · have hg2 : (zE z (sL i k) j).2.1 = true := hg
    rw [show fLive (zE z (sL i k) j) = ((zE z (sL i k) j).1 && !(zE z (sL i k) j).2.1) from rfl, hg2]
    simp
theorem RLf.hr {i : Nat} {z : cZ} {w : mW} (h : RLf i z w) {k j : Nat} (hk : k < 2) (hj : j < zN z k) : (zR z k j).1 = decide (rdT w 2 (rP k j) ≠ 0) := (h.2.1 k j hk hj).1
/-- the writes of the mapper at one key -/
theorem kIn_U {z : cZ} {i k j : Nat} {rf : Int32} (hk : k < 2) : zU z (kIn i k j rf z) i k j (true, eNm (zE z (sL i k) j), rf, 0) (fSnap (zE z (sL i k) j) (true, eNm (zE z (sL i k) j), rf, 0)) := by
  have t1 := zU_R (z := z) (i := i) (k := k) (j := j) (v := fIns (zR z k j) (eNm (zE z (sL i k) j)) rf)
  have t2 := zU_J (z := sR z k j (fIns (zR z k j) (eNm (zE z (sL i k) j)) rf)) (ac := 0) (i := i) (k := k) (j := j) (b := k) (c := j)
  rw [t1.r hk] at t2
  have t3 := zU_E (z := kNo 0 k j (sR z k j (fIns (zR z k j) (eNm (zE z (sL i k) j)) rf))) (i := i) (k := k) (j := j) (v := fSnap (zE z (sL i k) j) (fIns (zR z k j) (eNm (zE z (sL i k) j)) rf)) hk
  rw [t2.r hk] at t3
  exact t1.tr (t2.tr t3)
theorem kUd_U {z : cZ} {i k j : Nat} (hk : k < 2) : zU z (kUd i k j z) i k j (fUpd (zR z k j) (eNm (zE z (sL i k) j)) (eRf (zE z (sL i k) j))) (fSnap (zE z (sL i k) j) (fUpd (zR z k j) (eNm (zE z (sL i k) j)) (eRf (zE z (sL i k) j)))) := by
  have t1 := zU_R (z := z) (i := i) (k := k) (j := j) (v := fUpd (zR z k j) (eNm (zE z (sL i k) j)) (eRf (zE z (sL i k) j)))
  have t2 := zU_J (z := sR z k j (fUpd (zR z k j) (eNm (zE z (sL i k) j)) (eRf (zE z (sL i k) j)))) (ac := 1) (i := i) (k := k) (j := j) (b := k) (c := j)
  rw [t1.r hk] at t2
  have t3 := zU_E (z := kNo 1 k j (sR z k j (fUpd (zR z k j) (eNm (zE z (sL i k) j)) (eRf (zE z (sL i k) j))))) (i := i) (k := k) (j := j) (v := fSnap (zE z (sL i k) j) (fUpd (zR z k j) (eNm (zE z (sL i k) j)) (eRf (zE z (sL i k) j)))) hk
  rw [t2.r hk] at t3
  exact t1.tr (t2.tr t3)
theorem kDl_U {z : cZ} {i k j : Nat} (hk : k < 2) : zU z (kDl i k j z) i k j (fGo (zR z k j)) (fForget (zE z (sL i k) j)) := by
  have t1 := zU_R (z := z) (i := i) (k := k) (j := j) (v := fGo (zR z k j))
  have t2 := zU_J (z := sR z k j (fGo (zR z k j))) (ac := 2) (i := i) (k := k) (j := j) (b := k) (c := j)
  rw [t1.r hk] at t2
  have t3 := zU_E (z := kNo 2 k j (sR z k j (fGo (zR z k j)))) (i := i) (k := k) (j := j) (v := fForget (zE z (sL i k) j)) hk
  rw [t2.r hk] at t3
  exact t1.tr (t2.tr t3)
theorem zU.rf {z : cZ} {i k j : Nat} : zU z z i k j (zR z k j) (zE z (sL i k) j) := by
  refine ⟨rfl, fun b c hb => ?_, fun a b c ha hb => ?_⟩
  · split
    · rename_i q
      rw [q.1, q.2]
    · rfl
  · split
    · rename_i q
      rw [q.1, q.2.1, q.2.2]
    · rfl
theorem nI_nm1 {q : Nat} (h : q < 2 ^ 31) : nI q ≠ -1 := fun e => nI_pos h (by rw [e]; decide)
theorem RLf.it {i : Nat} {z : cZ} {w : mW} (h : RLf i z w) {k j : Nat} (hk : k < 2) (hr : rOK w (1 - k) (rdT w 10 (aP i k j))) : mIt i k j w = (rV z (1 - k) (rdT w 10 (aP i k j))).1 := by
  have hk2 : 1 - k < 2 := by omega
  have hn := h.2.2.2.2.2 (1 - k) hk2
  have h1 := h.1 (1 - k) hk2
  unfold mIt
  rcases hr with e | ⟨q, hq, e⟩
  · rw [e]
    unfold rV
    rw [if_neg (by unfold inK; rw [decide_eq_true (show (-1 : Int32) < 0 by decide)]; simp)]
    rfl
  · rw [e, nI_clamp (by omega), rV_in (by omega) (by omega), h.hr hk2 (by omega), decide_eq_false (nI_nm1 (by omega))]
    by_cases q9 : rdT w 2 (rP (1 - k) q) = 0
    · rw [decide_eq_true q9, decide_eq_false (fun r => r q9)]
      rfl
    · rw [decide_eq_false q9, decide_eq_true q9]
      rfl
/-- no clash: what changed or goes is there, as it is known -/
def NC (i : Nat) (z : cZ) : Prop := ∀ k j, k < 2 → j < zN z k → fClash (zE z (sL i k) j) (zR z k j) = false
theorem NC.up {z z1 : cZ} {i k j : Nat} {r : vR} {e : vE} (h : NC i z) (hi : i < 3) (u : zU z z1 i k j r e) (hc : fClash e r = false) : NC i z1 := by
  intro b c hb hc2
  rw [u.1] at hc2
  rw [u.2.1 b c hb, u.2.2 i b c hi hb]
  by_cases q : b = k ∧ c = j
  · rw [if_pos q, if_pos ⟨rfl, q⟩]
    exact hc
  · rw [if_neg q, if_neg (fun r => q r.2)]
    exact h b c hb hc2
theorem fClash_f {e : vE} {r : vR} (h : fClash e r = false) (hc : (fChg e || e.2.1) = true) : r.1 = true ∧ r.2.2.2 = e.2.2.2.2.2.2.2 := by
  obtain ⟨b1, b2, b3, nm, rf, sn, sr, sv⟩ := e
  obtain ⟨t, rn, rr, rv⟩ := r
  have h9 : ((fChg (b1, b2, b3, nm, rf, sn, sr, sv) || b2) && (!t || decide (rv ≠ sv))) = false := h
  have hc9 : (fChg (b1, b2, b3, nm, rf, sn, sr, sv) || b2) = true := hc
  rw [hc9, Bool.true_and, Bool.or_eq_false_iff] at h9
  exact ⟨by simpa using h9.1, Classical.not_not.mp (of_decide_eq_false h9.2)⟩
theorem fClash_t {e : vE} {r : vR} (h1 : r.1 = true) (h2 : r.2.2.2 = e.2.2.2.2.2.2.2) : fClash e r = false := by
  obtain ⟨b1, b2, b3, nm, rf, sn, sr, sv⟩ := e
  obtain ⟨t, rn, rr, rv⟩ := r
  have h1 : t = true := h1
  have h2 : rv = sv := h2
  show ((fChg (b1, b2, b3, nm, rf, sn, sr, sv) || b2) && (!t || decide (rv ≠ sv))) = false
  rw [h1, h2]
  simp
def FI (i : Nat) (z : cZ) (w : mW) : Prop := RLf i z w ∧ mInv w ∧ NC i z
theorem FI.in {i : Nat} {z : cZ} {w : mW} (h : FI i z w) (hi : i < 3) {k j : Nat} (hk : k < 2) (hj : j < zN z k) (hn : fNew (zE z (sL i k) j) = true) {rf : Int32} (hrf : rf = if mIt i k j w = true then rdT w 10 (aP i k j) else -1) : FI i (kIn i k j rf z) (mIn i k j w) := by
  have hm : mMd w i k j = true := by rw [h.1.md hi hk hj]; exact hn
  have hb := h.1.2.2.2.2.2 k hk
  have hI := mIn_I (i := i) (k := k) (j := j) h.2.1 hi hk (by omega)
  have he := h.1.2.2.1 i k j hi hk hj
  have hg : gone i z k j = false := he.ng hn
  have hc := (h.1.ct hi hk hj hg).1 (fNew_1 hn).1
  refine ⟨?_, hI, h.2.2.up hi (kIn_U hk) (fClash_t rfl rfl)⟩
  unfold mIn
  rw [if_pos hm]
  refine h.1.up (kIn_U hk) (mIns_U hi hk (by omega)) hi hj ?_ ?_
  · exact ⟨rfl, fun _ _ => by rw [hc.1, hrf]⟩
  · generalize hv : zE z (sL i k) j = v at he hc hn ⊢
    obtain ⟨b1, b2, b3, nm, rf9, sn, sr, sv⟩ := v
    have hb1 : b1 = true := (fNew_1 hn).1
    have hb2 : b2 = false := he.ng hn
    have hc1 : nm = rdT w 9 (aP i k j) := hc.1
    have hc2 : rf9 = rdT w 10 (aP i k j) := hc.2
    refine ⟨Or.inr (Or.inr rfl), hb1, hb2, rfl, fun q => rfl, fun _ => ⟨fun _ => ⟨hc1, hc2⟩, fun _ => ?_⟩⟩
    show (nm, rf, (0 : Int32)) = _
    rw [hc1, hrf]
theorem FI.ia {i : Nat} {z : cZ} {w : mW} (h : FI i z w) (hi : i < 3) {j : Nat} (hj : j < zN z 0) : FI i (kIa i j z) (mIn i 0 j w) := by
  have hb := h.1.2.2.2.2.2 0 (by decide)
  unfold kIa
  split
  · rename_i hn
    refine h.in hi (by decide) hj hn ?_
    have he := h.1.2.2.1 i 0 j hi (by decide) hj
    have hc := (h.1.ct hi (by decide) hj (he.ng hn)).1 (fNew_1 hn).1
    have hr := (h.2.1.2.1 i 0 j hi (by decide) (by omega) (mMd_0 (by rw [h.1.md hi (by decide) hj]; exact hn))).2
    rw [hc.2, h.1.it (k := 0) (by decide) hr]
  · rename_i hn
    unfold mIn
    rw [h.1.md hi (by decide) hj, if_neg hn]
    exact h
theorem FI.ib {i : Nat} {z : cZ} {w : mW} (h : FI i z w) (hi : i < 3) {j : Nat} (hj : j < zN z 1) (hp : fNew (zE z (sL i 1) j) = true → eRf (zE z (sL i 1) j) = -1 ∨ (rV z 0 (eRf (zE z (sL i 1) j))).1 = true) : FI i (kIb i j z) (mIn i 1 j w) := by
  have hb := h.1.2.2.2.2.2 1 (by decide)
  unfold kIb
  split
  · rename_i hn
    refine h.in hi (by decide) hj hn ?_
    have he := h.1.2.2.1 i 1 j hi (by decide) hj
    have hc := (h.1.ct hi (by decide) hj (he.ng hn)).1 (fNew_1 hn).1
    have hr := (h.2.1.2.1 i 1 j hi (by decide) (by omega) (mMd_0 (by rw [h.1.md hi (by decide) hj]; exact hn))).2
    have hp := hp hn
    rw [hc.2] at hp
    rw [hc.2, h.1.it (k := 1) (by decide) hr]
    split
    · rfl
    · rename_i q
      exact hp.resolve_right q
  · rename_i hn
    unfold mIn
    rw [h.1.md hi (by decide) hj, if_neg hn]
    exact h
theorem FI.u {i : Nat} {z : cZ} {w : mW} (h : FI i z w) (hi : i < 3) {k j : Nat} (hk : k < 2) (hj : j < zN z k) : FI i (kUp i k j z) (mUp i k j w) := by
  have hb := h.1.2.2.2.2.2 k hk
  have hI := mUp_I (i := i) (k := k) (j := j) h.2.1 hi hk (by omega)
  have he := h.1.2.2.1 i k j hi hk hj
  have hdr := h.1.dr hi hk hj
  unfold kUp
  split
  · rename_i hc
    have hcl := fClash_f (h.2.2 k j hk hj) (by rw [hc]; rfl)
    have hnc : NC i (kUd i k j z) := h.2.2.up hi (kUd_U hk) (fClash_t hcl.1 rfl)
    refine ⟨?_, hI, hnc⟩
    have hrw := h.1.2.1 k j hk hj
    cases hg : gone i z k j
    · rw [hg, hc, Bool.not_false, Bool.and_true] at hdr
      unfold mUp
      rw [if_pos hdr]
      have h3 := fChg_3 hc
      have h1 := he.b1 h3
      have hct := (h.1.ct hi hk hj hg).1 h1
      rw [hg] at hrw
      have hrc := hrw.2 rfl hcl.1
      have hv5 : (zR z k j).2.2.2 = rdT w 5 (rP k j) := congrArg (fun q => q.2.2) hrc
      have hg2 : (zE z (sL i k) j).2.1 = false := hg
      refine h.1.up (kUd_U hk) (mUpd_U hi hk (by omega)) hi hj ?_ ?_
      · refine ⟨?_, fun _ _ => ?_⟩
        · have := hrw.1
          generalize zR z k j = rr at this ⊢
          obtain ⟨t, a, b, c⟩ := rr
          exact this
        · rw [show (fUpd (zR z k j) (eNm (zE z (sL i k) j)) (eRf (zE z (sL i k) j))).2 = (eNm (zE z (sL i k) j), eRf (zE z (sL i k) j), (zR z k j).2.2.2 + 1) from rfl, hct.1, hct.2, hv5]
      · have hsn : fSnap (zE z (sL i k) j) (fUpd (zR z k j) (eNm (zE z (sL i k) j)) (eRf (zE z (sL i k) j))) = ((zE z (sL i k) j).1, (zE z (sL i k) j).2.1, true, eNm (zE z (sL i k) j), eRf (zE z (sL i k) j), eNm (zE z (sL i k) j), eRf (zE z (sL i k) j), (zR z k j).2.2.2 + 1) := rfl
        rw [hsn, h1, hg2, hct.1, hct.2, hv5]
        exact ⟨Or.inr (Or.inr rfl), rfl, rfl, rfl, fun q => ff q, fun _ => ⟨fun _ => ⟨rfl, rfl⟩, fun _ => rfl⟩⟩
    · rw [hg, Bool.not_true, Bool.and_false] at hdr
      unfold mUp
      rw [if_neg (by rw [hdr]; decide)]
      have hg2 : (zE z (sL i k) j).2.1 = true := hg
      have uw : mU w w i k j (gR w k j) (gO w i k j) := by
        refine ⟨rfl, fun b c hb hc => ?_, fun a b c ha hb hc => ?_⟩
        · split
          · rename_i q
            rw [q.1, q.2]
          · rfl
        · split
          · rename_i q
            rw [q.1, q.2.1, q.2.2]
          · rfl
      refine h.1.up (kUd_U hk) uw hi hj ?_ ?_
      · refine ⟨?_, fun q => ?_⟩
        · have := hrw.1
          generalize zR z k j = rr at this ⊢
          obtain ⟨t, a, b, c⟩ := rr
          exact this
        · have q : (zE z (sL i k) j).2.1 = false := q
          rw [hg2] at q
          exact absurd q (by decide)
      · obtain ⟨e0, e1, e2, e3, e4, -⟩ := he
        have h3 := e4 hg2
        refine ⟨e0, e1, e2, ?_, fun _ => rfl, fun q => ?_⟩
        · show true = _
          rw [← h3]
          exact e3
        · have q : (zE z (sL i k) j).2.1 = false := q
          rw [hg2] at q
          exact absurd q (by decide)
  · rename_i hc
    have hc2 : fChg (zE z (sL i k) j) = false := by simpa using hc
    rw [hc2, Bool.false_and] at hdr
    unfold mUp
    rw [if_neg (by rw [hdr]; decide)]
    exact h
theorem FI.d {i : Nat} {z : cZ} {w : mW} (h : FI i z w) (hi : i < 3) {k j : Nat} (hk : k < 2) (hj : j < zN z k) : FI i (kDe i k j z) (mDe i k j w) := by
  have hb := h.1.2.2.2.2.2 k hk
  have hI := mDe_I (i := i) (k := k) (j := j) h.2.1 hi hk (by omega)
  have hgn := h.1.gn hi hk hj
  unfold kDe
  split
  · rename_i hc
    have hg : gone i z k j = true := hc
    unfold mDe
    unfold mDe at hI
    rw [hgn, if_pos hg] at hI ⊢
    refine ⟨h.1.up (kDl_U hk) (mDel_U hi hk (by omega)) hi hj ⟨rfl, fun _ q => ff q⟩ ⟨Or.inl rfl, rfl, rfl, rfl, fun q => ff q, fun _ => ⟨fun q => ff q, fun q => ff q⟩⟩, hI, h.2.2.up hi (kDl_U hk) ?_⟩
    generalize zE z (sL i k) j = v
    generalize zR z k j = r
    obtain ⟨b1, b2, b3, nm, rf, sn, sr, sv⟩ := v
    obtain ⟨t, rn, rr, rv⟩ := r
    rfl
  · rename_i hc
    have hg : gone i z k j = false := by
      show (zE z (sL i k) j).2.1 = false
      simpa using hc
    unfold mDe
    rw [hgn, if_neg (by rw [hg]; decide)]
    exact h
