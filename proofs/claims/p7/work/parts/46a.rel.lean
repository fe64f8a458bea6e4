/-! THE RELATION: the mapper's state z and the reference's state w -/
theorem ff {P : Prop} (h : false = true) : P := by cases h
def rR (v : vR) (g : wR) : Prop := v.1 = decide (g.1 ≠ 0) ∧ (v.1 = true → v.2 = g.2)
def rE (v : vE) (o : wO) : Prop := (o.1 = 0 ∨ o.1 = 1 ∨ o.1 = 2) ∧ v.1 = decide (o.1 ≠ 0) ∧ v.2.1 = decide (o.2.1 ≠ 0) ∧ v.2.2.1 = decide (o.1 = 2) ∧ (v.2.1 = true → v.2.2.1 = true) ∧ (v.1 = true → v.2.2.2.1 = o.2.2.1 ∧ v.2.2.2.2.1 = o.2.2.2.1) ∧ (v.2.2.1 = true → v.2.2.2.2.2 = o.2.2.2.2)
def RZ (z : cZ) (w : mW) : Prop := (∀ k, k < 2 → zN z k = rdK w k) ∧ (∀ k j, k < 2 → j < zN z k → rR (zR z k j) (gR w k j)) ∧ (∀ i k j, i < 3 → k < 2 → j < zN z k → rE (zE z (sL i k) j) (gO w i k j)) ∧ (∀ k j, k < 2 → zN z k ≤ j → j < 1024 → (gR w k j).1 = 0) ∧ (∀ i k j, i < 3 → k < 2 → zN z k ≤ j → j < 1024 → (gO w i k j).1 = 0 ∧ (gO w i k j).2.1 = 0) ∧ ∀ k, k < 2 → zN z k ≤ 1024
def zU (z z1 : cZ) (i k j : Nat) (r : vR) (e : vE) : Prop := zN z1 = zN z ∧ (∀ b c, b < 2 → zR z1 b c = if b = k ∧ c = j then r else zR z b c) ∧ (∀ a b c, a < 3 → b < 2 → zE z1 (sL a b) c = if a = i ∧ b = k ∧ c = j then e else zE z (sL a b) c)
theorem zU.tr {z z1 z2 : cZ} {i k j : Nat} {r r2 : vR} {e e2 : vE} (h1 : zU z z1 i k j r e) (h2 : zU z1 z2 i k j r2 e2) : zU z z2 i k j r2 e2 := by
  refine ⟨h2.1.trans h1.1, fun b c hb => ?_, fun a b c ha hb => ?_⟩
  · rw [h2.2.1 b c hb, h1.2.1 b c hb]
    by_cases h : b = k ∧ c = j
    · rw [if_pos h, if_pos h]
    · rw [if_neg h, if_neg h, if_neg h]
  · rw [h2.2.2 a b c ha hb, h1.2.2 a b c ha hb]
    by_cases h : a = i ∧ b = k ∧ c = j
    · rw [if_pos h, if_pos h]
    · rw [if_neg h, if_neg h, if_neg h]
theorem zU_E {z : cZ} {i k j : Nat} {v : vE} (hk : k < 2) : zU z (sE z (sL i k) j v) i k j (zR z k j) v := by
  refine ⟨rfl, fun b c hb => ?_, fun a b c ha hb => ?_⟩
  · show zR z b c = _
    split
    · rename_i q
      rw [q.1, q.2]
    · rfl
  · show up2 (zE z) (sL i k) j v (sL a b) c = _
    by_cases h : a = i ∧ b = k ∧ c = j
    · rw [if_pos h, h.1, h.2.1, h.2.2, up2_s]
    · rw [if_neg h]
      refine up2_n (fun q => h ?_)
      have q1 := q.1
      unfold sL at q1
      exact ⟨by omega, by omega, q.2⟩
theorem zU_R {z : cZ} {i k j : Nat} {v : vR} : zU z (sR z k j v) i k j v (zE z (sL i k) j) := by
  refine ⟨rfl, fun b c hb => ?_, fun a b c ha hb => ?_⟩
  · show up2 (zR z) k j v b c = _
    by_cases h : b = k ∧ c = j
    · rw [if_pos h, h.1, h.2, up2_s]
    · rw [if_neg h]
      exact up2_n h
  · show zE z (sL a b) c = _
    split
    · rename_i q
      rw [q.1, q.2.1, q.2.2]
    · rfl
theorem zU_J {z : cZ} {ac : Int32} {i k j b c : Nat} : zU z (kNo ac b c z) i k j (zR z k j) (zE z (sL i k) j) := by
  refine ⟨rfl, fun b c hb => ?_, fun a b c ha hb => ?_⟩
  · show zR z b c = _
    split
    · rename_i q
      rw [q.1, q.2]
    · rfl
  · show zE z (sL a b) c = _
    split
    · rename_i q
      rw [q.1, q.2.1, q.2.2]
    · rfl
theorem zU.r {z z1 : cZ} {i k j : Nat} {r : vR} {e : vE} (h : zU z z1 i k j r e) (hk : k < 2) : zR z1 k j = r := by
  rw [h.2.1 k j hk, if_pos ⟨rfl, rfl⟩]
theorem zU.e {z z1 : cZ} {i k j : Nat} {r : vR} {e : vE} (h : zU z z1 i k j r e) (hi : i < 3) (hk : k < 2) : zE z1 (sL i k) j = e := by
  rw [h.2.2 i k j hi hk, if_pos ⟨rfl, rfl, rfl⟩]
theorem RZ.up {z z1 : cZ} {w w1 : mW} {i k j : Nat} {r : vR} {e : vE} {r' : wR} {o' : wO} (h : RZ z w) (uz : zU z z1 i k j r e) (uw : mU w w1 i k j r' o') (hj : j < zN z k) (hr : rR r r') (he : rE e o') : RZ z1 w1 := by
  obtain ⟨h1, h2, h3, h4, h5, h6⟩ := h
  refine ⟨fun b hb => by rw [uz.1, uw.1]; exact h1 b hb, fun b c hb hc => ?_, fun a b c ha hb hc => ?_, fun b c hb hc hc2 => ?_, fun a b c ha hb hc hc2 => ?_, fun b hb => by rw [uz.1]; exact h6 b hb⟩
  · rw [uz.1] at hc
    have := h6 b hb
    rw [uz.2.1 b c hb, uw.2.1 b c hb (by omega)]
    split
    · exact hr
    · exact h2 b c hb hc
  · rw [uz.1] at hc
    have := h6 b hb
    rw [uz.2.2 a b c ha hb, uw.2.2 a b c ha hb (by omega)]
    split
    · exact he
    · exact h3 a b c ha hb hc
  · rw [uz.1] at hc
    rw [uw.2.1 b c hb hc2, if_neg (fun q => by rw [q.1, q.2] at hc; omega)]
    exact h4 b c hb hc hc2
  · rw [uz.1] at hc
    rw [uw.2.2 a b c ha hb hc2, if_neg (fun q => by rw [q.2.1, q.2.2] at hc; omega)]
    exact h5 a b c ha hb hc hc2
theorem RZ.lk {z : cZ} {w w1 : mW} (h : RZ z w) (l : mLk w w1) : RZ z w1 := by
  obtain ⟨h1, h2, h3, h4, h5, h6⟩ := h
  exact ⟨fun k hk => by rw [l.1]; exact h1 k hk, fun k j hk hj => by rw [l.gRw]; exact h2 k j hk hj, fun i k j hi hk hj => by rw [l.gOw]; exact h3 i k j hi hk hj, fun k j hk hj hj2 => by rw [l.gRw]; exact h4 k j hk hj hj2, fun i k j hi hk hj hj2 => by rw [l.gOw]; exact h5 i k j hi hk hj hj2, h6⟩
theorem RZ.n {z : cZ} {w : mW} (h : RZ z w) {k : Nat} (hk : k < 2) : zN z k ≤ 1024 := h.2.2.2.2.2 k hk
/-- tests are alike -/
theorem RZ.hr {z : cZ} {w : mW} (h : RZ z w) {k j : Nat} (hk : k < 2) (hj : j < zN z k) : mHr w k (nI j) = (zR z k j).1 := by
  have hn := h.n hk
  have h1 := h.1 k hk
  have hr := (h.2.1 k j hk hj).1
  rw [hr, Bool.eq_iff_iff, mHr_iff (by omega) (by omega), decide_eq_true_iff]
  exact ⟨fun q => q.2, fun q => ⟨by omega, q⟩⟩
theorem RZ.kn {z : cZ} {w : mW} (h : RZ z w) {i k j : Nat} (hi : i < 3) (hk : k < 2) (hj : j < zN z k) : mKn w i k (nI j) = fLive (zE z (sL i k) j) := by
  have hn := h.n hk
  have h1 := h.1 k hk
  obtain ⟨-, e1, e2, -⟩ := h.2.2.1 i k j hi hk hj
  rw [show fLive (zE z (sL i k) j) = ((zE z (sL i k) j).1 && !(zE z (sL i k) j).2.1) from rfl, e1, e2, Bool.eq_iff_iff, mKn_iff (by omega) (by omega), Bool.and_eq_true, Bool.not_eq_true', decide_eq_true_iff, decide_eq_false_iff_not]
  exact ⟨fun q => ⟨q.2.1, fun q2 => q2 q.2.2⟩, fun q => ⟨by omega, q.1, Classical.not_not.mp q.2⟩⟩
theorem fLive_1 {v : vE} (h : fLive v = true) : v.1 = true ∧ v.2.1 = false := by
  have h9 : (v.1 && !v.2.1) = true := h
  rw [Bool.and_eq_true, Bool.not_eq_true'] at h9
  exact h9
theorem RZ.nm {z : cZ} {w : mW} (h : RZ z w) {i k j : Nat} (hi : i < 3) (hk : k < 2) (hj : j < zN z k) (hl : fLive (zE z (sL i k) j) = true) : eNm (zE z (sL i k) j) = rdT w 9 (aP i k j) ∧ eRf (zE z (sL i k) j) = rdT w 10 (aP i k j) := (h.2.2.1 i k j hi hk hj).2.2.2.2.2.1 (fLive_1 hl).1
theorem RZ.rf {z : cZ} {w : mW} (h : RZ z w) {i k j : Nat} (hi : i < 3) (hk : k < 2) (hj : j < zN z k) (t : Int32) : (mKn w i k (nI j) && decide (rdT w 10 (aP i k j) = t)) = fRefs (zE z (sL i k) j) t := by
  rw [h.kn hi hk hj, show fRefs (zE z (sL i k) j) t = (fLive (zE z (sL i k) j) && decide (eRf (zE z (sL i k) j) = t)) from rfl]
  cases hl : fLive (zE z (sL i k) j)
  · rfl
  · rw [(h.nm hi hk hj hl).2]
theorem RZ.dr {z : cZ} {w : mW} (h : RZ z w) {i k j : Nat} (hi : i < 3) (hk : k < 2) (hj : j < zN z k) : mDr w i k j = (fLive (zE z (sL i k) j) && fChg (zE z (sL i k) j)) := by
  unfold mDr
  rw [h.kn hi hk hj]
  cases hl : fLive (zE z (sL i k) j)
  · rfl
  · have e := h.nm hi hk hj hl
    have r := h.2.2.1 i k j hi hk hj
    obtain ⟨-, -, -, e3, -, -, e7⟩ := r
    have e3 : (zE z (sL i k) j).2.2.1 = decide (rdT w 7 (aP i k j) = 2) := e3
    rw [show fChg (zE z (sL i k) j) = ((zE z (sL i k) j).2.2.1 && (decide (eNm (zE z (sL i k) j) ≠ (zE z (sL i k) j).2.2.2.2.2.1) || decide (eRf (zE z (sL i k) j) ≠ (zE z (sL i k) j).2.2.2.2.2.2.1))) from rfl]
    rw [← e3]
    cases h3 : (zE z (sL i k) j).2.2.1
    · rfl
    · have e7 := e7 h3
      rw [e.1, e.2, show (zE z (sL i k) j).2.2.2.2.2.1 = rdT w 11 (aP i k j) from congrArg (fun q => q.1) e7, show (zE z (sL i k) j).2.2.2.2.2.2.1 = rdT w 12 (aP i k j) from congrArg (fun q => q.2.1) e7]
theorem live_eq {z : cZ} {w : mW} (h : RZ z w) (hq : cEq z) {i k : Nat} (hi : i < 3) (hk : k < 2) (ky : Int32) : fLive (eV z i k ky) = mKn w i k ky := by
  have hn := h.n hk
  have hc := hq i k hi hk
  have h1 := h.1 k hk
  by_cases q : inK (zN z k) ky = true
  · obtain ⟨j, hj, rfl⟩ := inK_n hn q
    rw [eV_in (by omega) (by omega), h.kn hi hk hj]
  · have q2 : inK (rdK w k) ky = false := by rw [← h1]; simpa using q
    unfold eV mKn
    rw [hc, if_neg q, q2]
    rfl
theorem row_eq {z : cZ} {w : mW} (h : RZ z w) {k : Nat} (hk : k < 2) (ky : Int32) : (rV z k ky).1 = mHr w k ky := by
  have hn := h.n hk
  have h1 := h.1 k hk
  by_cases q : inK (zN z k) ky = true
  · obtain ⟨j, hj, rfl⟩ := inK_n hn q
    rw [rV_in (by omega) (by omega), h.hr hk hj]
  · have q2 : inK (rdK w k) ky = false := by rw [← h1]; simpa using q
    unfold rV mHr
    rw [if_neg q, q2]
    rfl
/-- the steps -/
theorem rE_load {v : vE} {r : vR} {g : wR} {o : wO} (hv : rE v o) (h0 : v.1 = false) (hr : rR r g) (ht : r.1 = true) : rE (fLoad v r) (2, 0, g.2.1, g.2.2.1, g.2.1, g.2.2.1, g.2.2.2) := by
  obtain ⟨e0, e1, e2, e3, e4, -, -⟩ := hv
  obtain ⟨b1, b2, b3, nm, rf, sn, sr, sv⟩ := v
  obtain ⟨t, rn, rr, rv⟩ := r
  have hc := hr.2 ht
  have hc : (rn, rr, rv) = g.2 := hc
  have hb2 : b2 = false := by
    cases hb : b2
    · rfl
    · have h3 : b3 = true := e4 hb
      have h1 : b1 = false := h0
      have e1 : b1 = decide (o.1 ≠ 0) := e1
      have e3 : b3 = decide (o.1 = 2) := e3
      rw [h1] at e1
      rw [h3] at e3
      have := of_decide_eq_true e3.symm
      rw [this] at e1
      exact absurd e1 (by decide)
  refine ⟨Or.inr (Or.inr rfl), rfl, ?_, rfl, fun _ => rfl, fun _ => ⟨?_, ?_⟩, fun _ => ?_⟩
  · show b2 = decide ((0 : Int32) ≠ 0)
    rw [hb2]
    rfl
  · show rn = g.2.1
    rw [← hc]
  · show rr = g.2.2.1
    rw [← hc]
  · show (rn, rr, rv) = (g.2.1, g.2.2.1, g.2.2.2)
    rw [hc]
theorem RZ.take {z : cZ} {w : mW} (h : RZ z w) {i k j : Nat} (hi : i < 3) (hk : k < 2) (hj : j < zN z k) (h0 : (zE z (sL i k) j).1 = false) (ht : (zR z k j).1 = true) : RZ (sE z (sL i k) j (fLoad (zE z (sL i k) j) (zR z k j))) (mTk i k j w) := by
  have hn := h.n hk
  exact h.up (zU_E hk) (mTk_U hi hk (by omega)) hj (h.2.1 k j hk hj) (rE_load (h.2.2.1 i k j hi hk hj) h0 (h.2.1 k j hk hj) ht)
theorem rE_0 {v : vE} {o : wO} (h : rE v o) : (!v.1) = decide (o.1 = 0) := by
  rw [h.2.1]
  by_cases q : o.1 = 0
  · rw [decide_eq_true q, decide_eq_false (fun r => r q)]
    rfl
  · rw [decide_eq_false q, decide_eq_true q]
    rfl
theorem RZ.ld {z : cZ} {w : mW} (h : RZ z w) {i k j : Nat} (hi : i < 3) (hk : k < 2) (hj : j < zN z k) (t : Int32) : RZ (kLd i k t j z) (mLd i k t j w) := by
  have hc : ((zR z k j).1 && decide ((zR z k j).2.2.1 = t) && !(zE z (sL i k) j).1) = ((mHr w k (nI j) && decide (rdT w 4 (rP k j) = t)) && decide (rdT w 7 (aP i k j) = 0)) := by
    rw [h.hr hk hj, rE_0 (h.2.2.1 i k j hi hk hj)]
    cases ht : (zR z k j).1
    · rfl
    · rw [show (zR z k j).2.2.1 = rdT w 4 (rP k j) from congrArg (fun q => q.2.1) ((h.2.1 k j hk hj).2 ht)]
      rfl
  unfold kLd mLd
  rw [← hc]
  split
  · rename_i q
    rw [Bool.and_eq_true, Bool.and_eq_true, Bool.not_eq_true'] at q
    exact h.take hi hk hj q.2 q.1.1
  · exact h
theorem rE_strike {v : vE} {o : wO} (h : rE v o) : rE (fStrike v) ((if o.1 = 2 then 2 else 0), bI (decide (o.1 = 2)), o.2.2) := by
  obtain ⟨e0, e1, e2, e3, e4, e5, e6⟩ := h
  obtain ⟨b1, b2, b3, nm, rf, sn, sr, sv⟩ := v
  by_cases q : o.1 = 2
  · have hb : b3 = true := e3.trans (decide_eq_true q)
    have h1 : b1 = true := e1.trans (by rw [q]; rfl)
    rw [show fStrike (b1, b2, b3, nm, rf, sn, sr, sv) = (b1, true, b3, nm, rf, sn, sr, sv) from if_pos hb, if_pos q, decide_eq_true q]
    exact ⟨Or.inr (Or.inr rfl), h1, rfl, hb, fun _ => hb, e5, e6⟩
  · have hb : b3 = false := e3.trans (decide_eq_false q)
    rw [show fStrike (b1, b2, b3, nm, rf, sn, sr, sv) = (false, false, false, nm, rf, sn, sr, sv) from if_neg (by rw [hb]; decide), if_neg q, decide_eq_false q]
    exact ⟨Or.inl rfl, rfl, rfl, rfl, fun q => ff q, fun q => ff q, fun q => ff q⟩
theorem RZ.go {z : cZ} {w : mW} (h : RZ z w) {i k j : Nat} (hi : i < 3) (hk : k < 2) (hj : j < zN z k) : RZ (kSt i k j z) (mGo i k j w) := by
  have hn := h.n hk
  exact h.up (zU_E hk) (mGo_U hi hk (by omega)) hj (h.2.1 k j hk hj) (rE_strike (h.2.2.1 i k j hi hk hj))
theorem RZ.cl {z : cZ} {w : mW} (h : RZ z w) {i j : Nat} (hi : i < 3) (hj : j < zN z 0) (t : Int32) : RZ (kCl i t j z) (mCl i t j w) := by
  have hn := h.n (k := 0) (by decide)
  have he := h.2.2.1 i 0 j hi (by decide) hj
  unfold kCl mCl
  rw [h.rf hi (by decide) hj t]
  split
  · rename_i q
    refine h.up (zU_E (by decide)) (mS10_U (by decide) (by omega)) hj (h.2.1 0 j (by decide) hj) ?_
    obtain ⟨e0, e1, e2, e3, e4, e5, e6⟩ := he
    exact ⟨e0, e1, e2, e3, e4, fun q => ⟨(e5 q).1, rfl⟩, e6⟩
  · refine h.up (z1 := z) (i := i) (k := 0) (j := j) (r := zR z 0 j) (e := zE z (sL i 0) j) ⟨rfl, fun b c hb => ?_, fun a b c ha hb => ?_⟩ (mS10_U (by decide) (by omega)) hj (h.2.1 0 j (by decide) hj) he
    · split
      · rename_i q
        rw [q.1, q.2]
      · rfl
    · split
      · rename_i q
        rw [q.1, q.2.1, q.2.2]
      · rfl
theorem RZ.fg {z : cZ} {w : mW} (h : RZ z w) {i k j : Nat} (hi : i < 3) (hk : k < 2) (hj : j < zN z k) : RZ (kFg i k j z) (mFg i k j w) := by
  have hn := h.n hk
  exact h.up (zU_E hk) (mFg_U hi hk (by omega)) hj (h.2.1 k j hk hj) ⟨Or.inl rfl, rfl, rfl, rfl, fun q => ff q, fun q => ff q, fun q => ff q⟩
theorem RZ.sn {z : cZ} {w : mW} (h : RZ z w) {i k j : Nat} (hi : i < 3) (hk : k < 2) (hj : j < zN z k) (nm : Int32) : RZ (kNm i k j nm z) (mS w 9 (aP i k j) nm) := by
  have hn := h.n hk
  refine h.up (zU_E hk) (mS9_U hk (by omega)) hj (h.2.1 k j hk hj) ?_
  obtain ⟨e0, e1, e2, e3, e4, e5, e6⟩ := h.2.2.1 i k j hi hk hj
  exact ⟨e0, e1, e2, e3, e4, fun q => ⟨rfl, (e5 q).2⟩, e6⟩
theorem RZ.sr {z : cZ} {w : mW} (h : RZ z w) {i k j : Nat} (hi : i < 3) (hk : k < 2) (hj : j < zN z k) (rf : Int32) : RZ (kRf i k j rf z) (mS w 10 (aP i k j) rf) := by
  have hn := h.n hk
  refine h.up (zU_E hk) (mS10_U hk (by omega)) hj (h.2.1 k j hk hj) ?_
  obtain ⟨e0, e1, e2, e3, e4, e5, e6⟩ := h.2.2.1 i k j hi hk hj
  exact ⟨e0, e1, e2, e3, e4, fun q => ⟨(e5 q).1, rfl⟩, e6⟩
/-- loops on both sides -/
theorem RL_it {F : Nat → cZ → cZ} {F' : Nat → mW → mW} {N0 : Nat → Nat} {n : Nat} (hN : ∀ j z, zN (F j z) = zN z) (h : ∀ j z w, j < n → zN z = N0 → RZ z w → RZ (F j z) (F' j w)) {z : cZ} {w : mW} (hz : zN z = N0) (hR : RZ z w) : RZ (itr F n z) (itm F' n w) := by
  induction n with
  | zero => exact hR
  | succ n ih => exact h n _ _ (by omega) ((itr_N hN n z).trans hz) (ih (fun j z w hj => h j z w (by omega)))
theorem RZ.rmB {z : cZ} {w : mW} (h : RZ z w) (hq : cEq z) {i b : Nat} (hi : i < 3) (hb : b < zN z 1) : RZ (kRmB i b z) (mRmB i b w) := by
  unfold kRmB mRmB
  rw [hq i 0 hi (by decide), ← h.1 0 (by decide)]
  refine RL_it (N0 := zN z) (kCl_N i (nI b)) (fun j z2 w2 hj hz2 h2 => h2.cl hi (by rw [hz2]; exact hj) _) (itr_N (kLd_N i 0 (nI b)) _ _) ?_
  exact RL_it (N0 := zN z) (kLd_N i 0 (nI b)) (fun j z2 w2 hj hz2 h2 => h2.ld hi (by decide) (by rw [hz2]; exact hj) _) rfl (h.go hi (by decide) hb)
theorem RZ.rb {z : cZ} {w : mW} (h : RZ z w) (hq : cEq z) {i j : Nat} (hi : i < 3) (hj : j < zN z 1) (t : Int32) : RZ (kRb i t j z) (mRb i t j w) := by
  unfold kRb mRb
  rw [h.rf hi (by decide) hj t]
  split
  · exact h.rmB hq hi hj
  · exact h
theorem cEq_N {z z1 : cZ} (h : zN z1 = zN z) (hq : cEq z) : cEq z1 := fun i k hi hk => by rw [h]; exact hq i k hi hk
