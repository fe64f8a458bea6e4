/-! P23, PURE: rows and objects, taken over -/
def zSt (z z1 : cZ) : Prop := cEq z1 ∧ ∀ u, u < 8 → zN z1 u ≤ zN z u + 1
theorem zAdd_N (u v : Nat) (z : cZ) : zN (zAdd u z) v = if v = u then zN z v + 1 else zN z v := by
  show (if v = u then zN z u + 1 else zN z v) = _
  by_cases h : v = u
  · rw [if_pos h, if_pos h, h]
  · rw [if_neg h, if_neg h]
theorem kM4_N {k : Nat} (hk : k < 2) (u : Nat) (z : cZ) : zN (kM4 k z) u = if (u = k ∨ u = sL 0 k ∨ u = sL 1 k ∨ u = sL 2 k) then zN z u + 1 else zN z u := by
  unfold kM4
  rw [zAdd_N, zAdd_N, zAdd_N, zAdd_N]
  unfold sL
  by_cases h0 : u = k
  · rw [if_neg (by omega), if_neg (by omega), if_neg (by omega), if_pos h0, if_pos (Or.inl h0)]
  · by_cases h1 : u = 2 + 2 * 0 + k
    · rw [if_neg (by omega), if_neg (by omega), if_pos h1, if_neg h0, if_pos (Or.inr (Or.inl h1))]
    · by_cases h2 : u = 2 + 2 * 1 + k
      · rw [if_neg (by omega), if_pos h2, if_neg h1, if_neg h0, if_pos (Or.inr (Or.inr (Or.inl h2)))]
      · by_cases h3 : u = 2 + 2 * 2 + k
        · rw [if_pos h3, if_neg h2, if_neg h1, if_neg h0, if_pos (Or.inr (Or.inr (Or.inr h3)))]
        · rw [if_neg h3, if_neg h2, if_neg h1, if_neg h0, if_neg (by omega)]
theorem kMk_N {i k : Nat} {nm rf : Int32} {z : cZ} (hk : k < 2) (u : Nat) : zN (kMk i k nm rf z) u = if (u = k ∨ u = sL 0 k ∨ u = sL 1 k ∨ u = sL 2 k) then zN z u + 1 else zN z u := kM4_N hk u z
theorem kMk_S {i k : Nat} {nm rf : Int32} {z : cZ} (hk : k < 2) (h : cEq z) : zSt z (kMk i k nm rf z) := by
  refine ⟨fun a b ha hb => ?_, fun u _ => ?_⟩
  · rw [kMk_N hk, kMk_N hk, h a b ha hb]
    by_cases q : b = k
    · rw [if_pos, if_pos (Or.inl q)]
      rw [q]
      rcases (show a = 0 ∨ a = 1 ∨ a = 2 by omega) with rfl | rfl | rfl
      · exact Or.inr (Or.inl rfl)
      · exact Or.inr (Or.inr (Or.inl rfl))
      · exact Or.inr (Or.inr (Or.inr rfl))
    · rw [if_neg, if_neg]
      · unfold sL
        omega
      · unfold sL
        omega
  · rw [kMk_N hk]
    split
    · exact Nat.le_refl _
    · exact Nat.le_succ _
theorem kFi_N (i k : Nat) (ky : Int32) (z : cZ) : zN (kFi i k ky z) = zN z := by
  unfold kFi
  split <;> rfl
theorem kRmA_N (i a : Nat) (z : cZ) : zN (kRmA i a z) = zN z := (itr_N (kRb_N i (nI a)) _ _).trans (itr_N (kLd_N i 1 (nI a)) _ _)
theorem kFl_N (i : Nat) (z : cZ) : zN (kFl i z) = zN z := (itr_N (kDe_st i 0).N _ _).trans ((itr_N (kDe_st i 1).N _ _).trans ((itr_N (kUp_st i 1).N _ _).trans ((itr_N (kUp_st i 0).N _ _).trans ((itr_N (kIb_st i).N _ _).trans (itr_N (kIa_st i).N _ _)))))
theorem kNo_C2 (ac : Int32) (k j : Nat) (z : cZ) : zC (kNo ac k j z) ≤ max (zC z) (2 * zW z) := by
  show (if zW z < zC z then zC z else zC z + zW z) ≤ _
  split <;> omega
def zGr (n : Nat) (z z1 : cZ) : Prop := zN z1 = zN z ∧ zC z ≤ zC z1 ∧ zC z1 ≤ max (zC z) (2 * (zW z + n)) ∧ zW z ≤ zW z1 ∧ zW z1 ≤ zW z + n
theorem zGr.tr {n m : Nat} {z z1 z2 : cZ} (h1 : zGr n z z1) (h2 : zGr m z1 z2) : zGr (n + m) z z2 := by
  obtain ⟨a1, a2, a3, a4, a5⟩ := h1
  obtain ⟨b1, b2, b3, b4, b5⟩ := h2
  exact ⟨b1.trans a1, by omega, by omega, by omega, by omega⟩
theorem zGr.le {n m : Nat} {z z1 : cZ} (h1 : zGr n z z1) (h : n ≤ m) : zGr m z z1 := by
  obtain ⟨a1, a2, a3, a4, a5⟩ := h1
  exact ⟨a1, a2, by omega, a4, by omega⟩
theorem zGr.no {ac : Int32} {k j : Nat} {z : cZ} : zGr 1 z (kNo ac k j z) := ⟨rfl, kNo_C ac k j z, Nat.le_trans (kNo_C2 ac k j z) (by omega), Nat.le_succ _, Nat.le_refl _⟩
theorem zGr.rf {z : cZ} : zGr 1 z z := ⟨rfl, Nat.le_refl _, by omega, Nat.le_refl _, Nat.le_succ _⟩
theorem ff {P : Prop} (h : false = true) : P := by cases h
def zU (z z1 : cZ) (i k j : Nat) (r : vR) (e : vE) : Prop := zN z1 = zN z ∧ (∀ b c, b < 2 → zR z1 b c = if b = k ∧ c = j then r else zR z b c) ∧ (∀ a b c, a < 3 → b < 2 → zE z1 (sL a b) c = if a = i ∧ b = k ∧ c = j then e else zE z (sL a b) c)
theorem zU.tr {z z1 z2 : cZ} {i k j : Nat} {r r2 : vR} {e e2 : vE} (h1 : zU z z1 i k j r e) (h2 : zU z1 z2 i k j r2 e2) : zU z z2 i k j r2 e2 := by
  refine ⟨h2.1.trans h1.1, fun b c hb => ?_, fun a b c ha hb => ?_⟩
  · rw [h2.2.1 b c hb, h1.2.1 b c hb]
    by_cases h : b = k ∧ c = j
    · rw [if_pos h, if_pos h]
    · rw [if_neg h, if_neg h, if_neg h]
  · rw [h2.2.2 a b c ha hb, h1.2.2 a b c ha hb]
    by_cases h : a = i ∧ b = k ∧ c = j
    · rw [if_pos h, if_pos h]
    · rw [if_neg h, if_neg h, if_neg h]
theorem zU_E {z : cZ} {i k j : Nat} {v : vE} (hk : k < 2) : zU z (sE z (sL i k) j v) i k j (zR z k j) v := by
  refine ⟨rfl, fun b c hb => ?_, fun a b c ha hb => ?_⟩
  · show zR z b c = _
    split
    · rename_i q
      rw [q.1, q.2]
    · rfl
  · show up2 (zE z) (sL i k) j v (sL a b) c = _
    by_cases h : a = i ∧ b = k ∧ c = j
    · rw [if_pos h, h.1, h.2.1, h.2.2, up2_s]
    · rw [if_neg h]
      refine up2_n (fun q => h ?_)
      have q1 := q.1
      unfold sL at q1
      exact ⟨by omega, by omega, q.2⟩
theorem zU_R {z : cZ} {i k j : Nat} {v : vR} : zU z (sR z k j v) i k j v (zE z (sL i k) j) := by
  refine ⟨rfl, fun b c hb => ?_, fun a b c ha hb => ?_⟩
  · show up2 (zR z) k j v b c = _
    by_cases h : b = k ∧ c = j
    · rw [if_pos h, h.1, h.2, up2_s]
    · rw [if_neg h]
      exact up2_n h
  · show zE z (sL a b) c = _
    split
    · rename_i q
      rw [q.1, q.2.1, q.2.2]
    · rfl
theorem zU_J {z : cZ} {ac : Int32} {i k j b c : Nat} : zU z (kNo ac b c z) i k j (zR z k j) (zE z (sL i k) j) := by
  refine ⟨rfl, fun b c hb => ?_, fun a b c ha hb => ?_⟩
  · show zR z b c = _
    split
    · rename_i q
      rw [q.1, q.2]
    · rfl
  · show zE z (sL a b) c = _
    split
    · rename_i q
      rw [q.1, q.2.1, q.2.2]
    · rfl
theorem zU.r {z z1 : cZ} {i k j : Nat} {r : vR} {e : vE} (h : zU z z1 i k j r e) (hk : k < 2) : zR z1 k j = r := by
  rw [h.2.1 k j hk, if_pos ⟨rfl, rfl⟩]
theorem zU.e {z z1 : cZ} {i k j : Nat} {r : vR} {e : vE} (h : zU z z1 i k j r e) (hi : i < 3) (hk : k < 2) : zE z1 (sL i k) j = e := by
  rw [h.2.2 i k j hi hk, if_pos ⟨rfl, rfl, rfl⟩]
theorem fLive_1 {v : vE} (h : fLive v = true) : v.1 = true ∧ v.2.1 = false := by
  have h9 : (v.1 && !v.2.1) = true := h
  rw [Bool.and_eq_true, Bool.not_eq_true'] at h9
  exact h9
theorem cEq_N {z z1 : cZ} (h : zN z1 = zN z) (hq : cEq z) : cEq z1 := fun i k hi hk => by rw [h]; exact hq i k hi hk
theorem kRm0_N (i a : Nat) (z : cZ) : zN (kRm0 i a z) = zN z := itr_N (kLd_N i 1 (nI a)) _ _
theorem zAdd_R (u : Nat) (z : cZ) (b c : Nat) : zR (zAdd u z) b c = if b = u ∧ c = zN z u then v0R else zR z b c := by
  show up2 (zR z) u (zN z u) v0R b c = _
  by_cases h : b = u ∧ c = zN z u
  · rw [if_pos h, h.1, h.2, up2_s]
  · rw [if_neg h, up2_n h]
theorem zAdd_E (u : Nat) (z : cZ) (b c : Nat) : zE (zAdd u z) b c = if b = u ∧ c = zN z u then v0E else zE z b c := by
  show up2 (zE z) u (zN z u) v0E b c = _
  by_cases h : b = u ∧ c = zN z u
  · rw [if_pos h, h.1, h.2, up2_s]
  · rw [if_neg h, up2_n h]
theorem kM4_R {k : Nat} (hk : k < 2) {z : cZ} {b c : Nat} (hb : b < 2) : zR (kM4 k z) b c = if b = k ∧ c = zN z k then v0R else zR z b c := by
  unfold kM4
  rw [zAdd_R, if_neg (by unfold sL; omega), zAdd_R, if_neg (by unfold sL; omega), zAdd_R, if_neg (by unfold sL; omega), zAdd_R]
theorem kM4_E {k : Nat} (hk : k < 2) {z : cZ} (hq : cEq z) {a b c : Nat} (ha : a < 3) (hb : b < 2) : zE (kM4 k z) (sL a b) c = if b = k ∧ c = zN z k then v0E else zE z (sL a b) c := by
  have n0 := hq 0 k (by decide) hk
  have n1 := hq 1 k (by decide) hk
  have n2 := hq 2 k (by decide) hk
  unfold kM4
  rw [zAdd_E, zAdd_E, zAdd_E, zAdd_E, zAdd_N, zAdd_N, zAdd_N, zAdd_N, zAdd_N, zAdd_N]
  rw [if_neg (show ¬ sL 2 k = sL 1 k by unfold sL; omega), if_neg (show ¬ sL 2 k = sL 0 k by unfold sL; omega), if_neg (show ¬ sL 2 k = k by unfold sL; omega), if_neg (show ¬ sL 1 k = sL 0 k by unfold sL; omega), if_neg (show ¬ sL 1 k = k by unfold sL; omega), if_neg (show ¬ sL 0 k = k by unfold sL; omega), n0, n1, n2]
  by_cases h : b = k ∧ c = zN z k
  · rw [if_pos h]
    rcases (show a = 0 ∨ a = 1 ∨ a = 2 by omega) with rfl | rfl | rfl
    · rw [if_neg (by unfold sL; omega), if_neg (by unfold sL; omega), if_pos ⟨by rw [h.1], h.2⟩]
    · rw [if_neg (by unfold sL; omega), if_pos ⟨by rw [h.1], h.2⟩]
    · rw [if_pos ⟨by rw [h.1], h.2⟩]
  · rw [if_neg h, if_neg (fun q => h (by unfold sL at q; exact ⟨by omega, q.2⟩)), if_neg (fun q => h (by unfold sL at q; exact ⟨by omega, q.2⟩)), if_neg (fun q => h (by unfold sL at q; exact ⟨by omega, q.2⟩)), if_neg (fun q => by unfold sL at q; omega)]
theorem kMk_R {i k : Nat} {nm rf : Int32} {z : cZ} (hk : k < 2) {b c : Nat} (hb : b < 2) : zR (kMk i k nm rf z) b c = if b = k ∧ c = zN z k then v0R else zR z b c := kM4_R hk hb
theorem kMk_E {i k : Nat} {nm rf : Int32} {z : cZ} (hk : k < 2) (hq : cEq z) (hi : i < 3) {a b c : Nat} (ha : a < 3) (hb : b < 2) : zE (kMk i k nm rf z) (sL a b) c = if a = i ∧ b = k ∧ c = zN z k then (true, false, false, nm, rf, 0, 0, 0) else (if b = k ∧ c = zN z k then v0E else zE z (sL a b) c) := by
  show up2 (zE (kM4 k z)) (sL i k) (zN z k) (fMake (zE (kM4 k z) (sL i k) (zN z k)) nm rf) (sL a b) c = _
  by_cases h : a = i ∧ b = k ∧ c = zN z k
  · rw [if_pos h, h.1, h.2.1, h.2.2, up2_s, kM4_E hk hq hi hk, if_pos ⟨rfl, rfl⟩]
    rfl
  · rw [if_neg h, up2_n (fun q => h (by have q1 := q.1; unfold sL at q1; exact ⟨by omega, by omega, q.2⟩)), kM4_E hk hq ha hb]
def gone (i : Nat) (z : cZ) (k j : Nat) : Bool := (zE z (sL i k) j).2.1
theorem zU.g {z z1 : cZ} {i k j : Nat} {r : vR} {e : vE} (h : zU z z1 i k j r e) (hi : i < 3) {b c : Nat} (hb : b < 2) : gone i z1 b c = if b = k ∧ c = j then e.2.1 else gone i z b c := by
  unfold gone
  rw [h.2.2 i b c hi hb]
  by_cases q : b = k ∧ c = j
  · rw [if_pos ⟨rfl, q.1, q.2⟩, if_pos q]
  · rw [if_neg (fun r => q r.2), if_neg q]
theorem fNew_1 {v : vE} (h : fNew v = true) : v.1 = true ∧ v.2.2.1 = false := by
  have h9 : (v.1 && !v.2.2.1) = true := h
  rw [Bool.and_eq_true, Bool.not_eq_true'] at h9
  exact h9
theorem fChg_3 {v : vE} (h : fChg v = true) : v.2.2.1 = true := by
  obtain ⟨b1, b2, b3, nm, rf, sn, sr, sv⟩ := v
  have h9 : (b3 && (decide (nm ≠ sn) || decide (rf ≠ sr))) = true := h
  exact ((Bool.and_eq_true _ _).mp h9).1
theorem kIn_U {z : cZ} {i k j : Nat} {rf : Int32} (hk : k < 2) : zU z (kIn i k j rf z) i k j (true, eNm (zE z (sL i k) j), rf, 0) (fSnap (zE z (sL i k) j) (true, eNm (zE z (sL i k) j), rf, 0)) := by
  have t1 := zU_R (z := z) (i := i) (k := k) (j := j) (v := fIns (zR z k j) (eNm (zE z (sL i k) j)) rf)
  have t2 := zU_J (z := sR z k j (fIns (zR z k j) (eNm (zE z (sL i k) j)) rf)) (ac := 0) (i := i) (k := k) (j := j) (b := k) (c := j)
  rw [t1.r hk] at t2
  have t3 := zU_E (z := kNo 0 k j (sR z k j (fIns (zR z k j) (eNm (zE z (sL i k) j)) rf))) (i := i) (k := k) (j := j) (v := fSnap (zE z (sL i k) j) (fIns (zR z k j) (eNm (zE z (sL i k) j)) rf)) hk
  rw [t2.r hk] at t3
  exact t1.tr (t2.tr t3)
theorem kUd_U {z : cZ} {i k j : Nat} (hk : k < 2) : zU z (kUd i k j z) i k j (fUpd (zR z k j) (eNm (zE z (sL i k) j)) (eRf (zE z (sL i k) j))) (fSnap (zE z (sL i k) j) (fUpd (zR z k j) (eNm (zE z (sL i k) j)) (eRf (zE z (sL i k) j)))) := by
  have t1 := zU_R (z := z) (i := i) (k := k) (j := j) (v := fUpd (zR z k j) (eNm (zE z (sL i k) j)) (eRf (zE z (sL i k) j)))
  have t2 := zU_J (z := sR z k j (fUpd (zR z k j) (eNm (zE z (sL i k) j)) (eRf (zE z (sL i k) j)))) (ac := 1) (i := i) (k := k) (j := j) (b := k) (c := j)
  rw [t1.r hk] at t2
  have t3 := zU_E (z := kNo 1 k j (sR z k j (fUpd (zR z k j) (eNm (zE z (sL i k) j)) (eRf (zE z (sL i k) j))))) (i := i) (k := k) (j := j) (v := fSnap (zE z (sL i k) j) (fUpd (zR z k j) (eNm (zE z (sL i k) j)) (eRf (zE z (sL i k) j)))) hk
  rw [t2.r hk] at t3
  exact t1.tr (t2.tr t3)
theorem kDl_U {z : cZ} {i k j : Nat} (hk : k < 2) : zU z (kDl i k j z) i k j (fGo (zR z k j)) (fForget (zE z (sL i k) j)) := by
  have t1 := zU_R (z := z) (i := i) (k := k) (j := j) (v := fGo (zR z k j))
  have t2 := zU_J (z := sR z k j (fGo (zR z k j))) (ac := 2) (i := i) (k := k) (j := j) (b := k) (c := j)
  rw [t1.r hk] at t2
  have t3 := zU_E (z := kNo 2 k j (sR z k j (fGo (zR z k j)))) (i := i) (k := k) (j := j) (v := fForget (zE z (sL i k) j)) hk
  rw [t2.r hk] at t3
  exact t1.tr (t2.tr t3)
theorem zU.rf {z : cZ} {i k j : Nat} : zU z z i k j (zR z k j) (zE z (sL i k) j) := by
  refine ⟨rfl, fun b c hb => ?_, fun a b c ha hb => ?_⟩
  · split
    · rename_i q
      rw [q.1, q.2]
    · rfl
  · split
    · rename_i q
      rw [q.1, q.2.1, q.2.2]
    · rfl
theorem nI_nm1 {q : Nat} (h : q < 2 ^ 31) : nI q ≠ -1 := fun e => nI_pos h (by rw [e]; decide)
def NC (i : Nat) (z : cZ) : Prop := ∀ k j, k < 2 → j < zN z k → fClash (zE z (sL i k) j) (zR z k j) = false
theorem NC.up {z z1 : cZ} {i k j : Nat} {r : vR} {e : vE} (h : NC i z) (hi : i < 3) (u : zU z z1 i k j r e) (hc : fClash e r = false) : NC i z1 := by
  intro b c hb hc2
  rw [u.1] at hc2
  rw [u.2.1 b c hb, u.2.2 i b c hi hb]
  by_cases q : b = k ∧ c = j
  · rw [if_pos q, if_pos ⟨rfl, q⟩]
    exact hc
  · rw [if_neg q, if_neg (fun r => q r.2)]
    exact h b c hb hc2
theorem fClash_f {e : vE} {r : vR} (h : fClash e r = false) (hc : (fChg e || e.2.1) = true) : r.1 = true ∧ r.2.2.2 = e.2.2.2.2.2.2.2 := by
  obtain ⟨b1, b2, b3, nm, rf, sn, sr, sv⟩ := e
  obtain ⟨t, rn, rr, rv⟩ := r
  have h9 : ((fChg (b1, b2, b3, nm, rf, sn, sr, sv) || b2) && (!t || decide (rv ≠ sv))) = false := h
  have hc9 : (fChg (b1, b2, b3, nm, rf, sn, sr, sv) || b2) = true := hc
  rw [hc9, Bool.true_and, Bool.or_eq_false_iff] at h9
  exact ⟨by simpa using h9.1, Classical.not_not.mp (of_decide_eq_false h9.2)⟩
theorem fClash_t {e : vE} {r : vR} (h1 : r.1 = true) (h2 : r.2.2.2 = e.2.2.2.2.2.2.2) : fClash e r = false := by
  obtain ⟨b1, b2, b3, nm, rf, sn, sr, sv⟩ := e
  obtain ⟨t, rn, rr, rv⟩ := r
  have h1 : t = true := h1
  have h2 : rv = sv := h2
  show ((fChg (b1, b2, b3, nm, rf, sn, sr, sv) || b2) && (!t || decide (rv ≠ sv))) = false
  rw [h1, h2]
  simp
theorem zU.v {z z1 : cZ} {i j : Nat} {r : vR} {e : vE} (h : zU z z1 i 1 j r e) (ky : Int32) : rV z1 0 ky = rV z 0 ky := by
  unfold rV
  rw [h.1]
  split
  · rw [h.2.1 0 _ (by decide), if_neg (fun q => absurd q.1 (by decide))]
  · rfl
theorem th_in {i k : Nat} {ky : Int32} {z : cZ} (hn : ∀ u, u < 8 → zN z u ≤ 1024) (hq : cEq z) (hi : i < 3) (hk : k < 2) : thB i k ky z = if inK (zN z k) ky = true then (fNew (zE z (sL i k) ky.toNatClampNeg) || (!(zE z (sL i k) ky.toNatClampNeg).2.1 && (zR z k ky.toNatClampNeg).1)) else false := by
  unfold thB eV rV
  rw [hq i k hi hk]
  split
  · rfl
  · rfl
theorem anyN_f {p : Nat → Bool} : ∀ {n : Nat}, anyN p n = false → ∀ j, j < n → p j = false := by
  intro n
  induction n with
  | zero => intro _ j hj; exact absurd hj (Nat.not_lt_zero j)
  | succ n ih =>
    intro h j hj
    have h : (anyN p n || p n) = false := h
    rw [Bool.or_eq_false_iff] at h
    by_cases e : j = n
    · rw [e]; exact h.2
    · exact ih h.1 j (by omega)
theorem NC.of {i : Nat} {z : cZ} (hq : cEq z) (hi : i < 3) (h : kCla i z = false) : NC i z := by
  unfold kCla at h
  rw [Bool.or_eq_false_iff] at h
  intro k j hk hj
  rcases (show k = 0 ∨ k = 1 by omega) with rfl | rfl
  · exact anyN_f h.1 j (by rw [hq i 0 hi (by decide)]; exact hj)
  · exact anyN_f h.2 j (by rw [hq i 1 hi (by decide)]; exact hj)
def eSn (e : vE) : Int32 := e.2.2.2.2.2.1
def eSr (e : vE) : Int32 := e.2.2.2.2.2.2.1
def eSv (e : vE) : Int32 := e.2.2.2.2.2.2.2
def rho (r : vR) : Nat := if r.1 = true then (if r.2.2.1 = -1 then 1 else 2) else 0
def omg (e : vE) : Nat := if fNew e = true then 4 else if fChg e = true then (if eNm e = eSn e ∧ eRf e = -1 then 0 else 2) else 0
def phi (z : cZ) (k j : Nat) : Nat := rho (zR z k j) + (omg (zE z (sL 0 k) j) + (omg (zE z (sL 1 k) j) + omg (zE z (sL 2 k) j)))
def sumN (f : Nat → Nat) : Nat → Nat
  | 0 => 0
  | n + 1 => sumN f n + f n
theorem sumN_congr {f g : Nat → Nat} : ∀ {n : Nat}, (∀ j, j < n → f j = g j) → sumN f n = sumN g n := by
  intro n
  induction n with
  | zero => intro _; rfl
  | succ n ih =>
    intro h
    show sumN f n + f n = sumN g n + g n
    rw [ih (fun j hj => h j (by omega)), h n (by omega)]
theorem sumN_up {f g : Nat → Nat} {a : Nat} : ∀ {n : Nat}, (∀ j, j < n → j ≠ a → f j = g j) → a < n → sumN f n + g a = sumN g n + f a := by
  intro n
  induction n with
  | zero => intro _ h; omega
  | succ n ih =>
    intro h ha
    show sumN f n + f n + g a = sumN g n + g n + f a
    by_cases e : a = n
    · have := sumN_congr (f := f) (g := g) (n := n) (fun j hj => h j (by omega) (by omega))
      rw [e]
      omega
    · have h1 := ih (fun j hj => h j (by omega)) (by omega)
      have h2 := h n (by omega) (fun q => e q.symm)
      omega
def Phi (z : cZ) : Nat := sumN (phi z 0) (zN z 0) + sumN (phi z 1) (zN z 1)
theorem phi_n {z z1 : cZ} {i k j : Nat} {r : vR} {e : vE} (u : zU z z1 i k j r e) {b c : Nat} (hb : b < 2) (h : ¬ (b = k ∧ c = j)) : phi z1 b c = phi z b c := by
  unfold phi
  rw [u.2.1 b c hb, if_neg h, u.2.2 0 b c (by decide) hb, if_neg (fun q => h q.2), u.2.2 1 b c (by decide) hb, if_neg (fun q => h q.2), u.2.2 2 b c (by decide) hb, if_neg (fun q => h q.2)]
theorem phi_s {z z1 : cZ} {i k j : Nat} {r : vR} {e : vE} (u : zU z z1 i k j r e) (hi : i < 3) (hk : k < 2) : phi z1 k j + (rho (zR z k j) + omg (zE z (sL i k) j)) = phi z k j + (rho r + omg e) := by
  unfold phi
  rw [u.2.1 k j hk, if_pos ⟨rfl, rfl⟩, u.2.2 0 k j (by decide) hk, u.2.2 1 k j (by decide) hk, u.2.2 2 k j (by decide) hk]
  rcases (show i = 0 ∨ i = 1 ∨ i = 2 by omega) with rfl | rfl | rfl
  · rw [if_pos ⟨rfl, rfl, rfl⟩, if_neg (fun q => absurd q.1 (by decide)), if_neg (fun q => absurd q.1 (by decide))]
    omega
  · rw [if_neg (fun q => absurd q.1 (by decide)), if_pos ⟨rfl, rfl, rfl⟩, if_neg (fun q => absurd q.1 (by decide))]
    omega
  · rw [if_neg (fun q => absurd q.1 (by decide)), if_neg (fun q => absurd q.1 (by decide)), if_pos ⟨rfl, rfl, rfl⟩]
    omega
theorem Phi_up {z z1 : cZ} {i k j : Nat} {r : vR} {e : vE} (u : zU z z1 i k j r e) (hi : i < 3) (hk : k < 2) (hj : j < zN z k) : Phi z1 + (rho (zR z k j) + omg (zE z (sL i k) j)) = Phi z + (rho r + omg e) := by
  have hs := phi_s u hi hk
  unfold Phi
  rw [u.1]
  rcases (show k = 0 ∨ k = 1 by omega) with rfl | rfl
  · have a := sumN_up (f := phi z1 0) (g := phi z 0) (a := j) (n := zN z 0) (fun c _ hc => phi_n u (by decide) (fun q => hc q.2)) hj
    have b := sumN_congr (f := phi z1 1) (g := phi z 1) (n := zN z 1) (fun c _ => phi_n u (by decide) (fun q => absurd q.1 (by decide)))
    omega
  · have a := sumN_up (f := phi z1 1) (g := phi z 1) (a := j) (n := zN z 1) (fun c _ hc => phi_n u (by decide) (fun q => hc q.2)) hj
    have b := sumN_congr (f := phi z1 0) (g := phi z 0) (n := zN z 0) (fun c _ => phi_n u (by decide) (fun q => absurd q.1 (by decide)))
    omega
def KI (W : Nat) (r : vR) (E : Nat → vE) : Prop := (∀ i, i < 3 → (E i).2.2.1 = true → (E i).1 = true) ∧ (∀ i, i < 3 → fNew (E i) = true → r.1 = false ∧ ∀ a, a < 3 → a ≠ i → (E a).1 = false) ∧ ∃ v, v ≤ W ∧ r.2.2.2 = nI v ∧ ∀ i, i < 3 → (E i).2.2.1 = true → ∃ s, s ≤ v ∧ eSv (E i) = nI s ∧ (s = v → r.1 = true → eSr (E i) = r.2.2.1)
def upE (E : Nat → vE) (i : Nat) (e : vE) : Nat → vE := fun a => if a = i then e else E a
theorem KI.mono {W W1 : Nat} {r : vR} {E : Nat → vE} (h : KI W r E) (hW : W ≤ W1) : KI W1 r E := by
  obtain ⟨h1, h2, v, h3, h4⟩ := h
  exact ⟨h1, h2, v, by omega, h4⟩
theorem KI.cg {W : Nat} {r : vR} {E E2 : Nat → vE} (he : ∀ a, a < 3 → E a = E2 a) (h : KI W r E) : KI W r E2 := by
  obtain ⟨h1, h2, v, h3, h4, h5⟩ := h
  exact ⟨fun a ha q => by rw [← he a ha] at q ⊢; exact h1 a ha q, fun a ha q => by rw [← he a ha] at q; exact ⟨(h2 a ha q).1, fun b hb hne => by rw [← he b hb]; exact (h2 a ha q).2 b hb hne⟩, v, h3, h4, fun a ha q => by rw [← he a ha] at q ⊢; exact h5 a ha q⟩
theorem KI.e {W : Nat} {r : vR} {E : Nat → vE} (h : KI W r E) {i : Nat} (hi : i < 3) {e : vE} (h31 : e.2.2.1 = true → e.1 = true) (hnw : fNew e = true → fNew (E i) = true) (hin : e.1 = true → (E i).1 = true) (hsn : e.2.2.1 = true → (E i).2.2.1 = true ∧ eSv e = eSv (E i) ∧ eSr e = eSr (E i)) : KI W r (upE E i e) := by
  obtain ⟨h1, h2, v, h3, h4, h5⟩ := h
  refine ⟨fun a ha q => ?_, fun a ha q => ?_, v, h3, h4, fun a ha q => ?_⟩
  · unfold upE at q ⊢
    split at q
    · rename_i e9
      rw [if_pos e9]
      exact h31 q
    · rename_i e9
      rw [if_neg e9]
      exact h1 a ha q
  · unfold upE at q
    split at q
    · rename_i e9
      have h9 := h2 i hi (hnw q)
      refine ⟨h9.1, fun b hb hne => ?_⟩
      unfold upE
      rw [if_neg (fun r => hne (r.trans e9.symm))]
      exact h9.2 b hb (fun r => hne (r.trans e9.symm))
    · rename_i e9
      have h9 := h2 a ha q
      refine ⟨h9.1, fun b hb hne => ?_⟩
      unfold upE
      split
      · rename_i e8
        have h7 := h9.2 i hi (fun r => e9 r.symm)
        cases h6 : e.1
        · rfl
        · rw [hin h6] at h7
          exact absurd h7 (by decide)
      · exact h9.2 b hb hne
  · unfold upE at q ⊢
    split at q
    · rename_i e9
      rw [if_pos e9]
      obtain ⟨a1, a2, a3⟩ := hsn q
      obtain ⟨s, s1, s2, s3⟩ := h5 i hi a1
      exact ⟨s, s1, by rw [a2]; exact s2, by rw [a3]; exact s3⟩
    · rename_i e9
      rw [if_neg e9]
      exact h5 a ha q
theorem KI.w {W W1 : Nat} {r r1 : vR} {E : Nat → vE} (h : KI W r E) {i : Nat} (hi : i < 3) {e : vE} {v1 : Nat} (hv : v1 ≤ W1) (hv2 : r1.2.2.2 = nI v1) (h31 : e.2.2.1 = true → e.1 = true) (hnw : fNew e = false) (hot : ∀ a, a < 3 → a ≠ i → fNew (E a) = false) (hsn : e.2.2.1 = true → eSv e = nI v1 ∧ eSr e = r1.2.2.1) (hold : ∀ a, a < 3 → a ≠ i → (E a).2.2.1 = true → ∃ s, s ≤ v1 ∧ eSv (E a) = nI s ∧ (s = v1 → r1.1 = true → eSr (E a) = r1.2.2.1)) : KI W1 r1 (upE E i e) := by
  obtain ⟨h1, h2, -⟩ := h
  refine ⟨fun a ha q => ?_, fun a ha q => ?_, v1, hv, hv2, fun a ha q => ?_⟩
  · unfold upE at q ⊢
    split at q
    · rename_i e9
      rw [if_pos e9]
      exact h31 q
    · rename_i e9
      rw [if_neg e9]
      exact h1 a ha q
  · unfold upE at q
    split at q
    · rw [hnw] at q
      exact absurd q (by decide)
    · rename_i e9
      rw [hot a ha e9] at q
      exact absurd q (by decide)
  · unfold upE at q ⊢
    split at q
    · rename_i e9
      rw [if_pos e9]
      exact ⟨v1, Nat.le_refl _, (hsn q).1, fun _ _ => (hsn q).2⟩
    · rename_i e9
      rw [if_neg e9]
      exact hold a ha e9 q
def PT (n : Nat) (z : cZ) : Prop := (∀ k j, k < 2 → j < zN z k → KI (zW z) (zR z k j) (fun i => zE z (sL i k) j)) ∧ zW z + Phi z ≤ n
theorem PT.up {n d : Nat} {z z1 : cZ} {i k j : Nat} {r : vR} {e : vE} (h : PT n z) (hi : i < 3) (hk : k < 2) (hj : j < zN z k) (u : zU z z1 i k j r e) (hW : zW z ≤ zW z1) (hK : KI (zW z1) r (upE (fun a => zE z (sL a k) j) i e)) (hp : zW z1 + (rho r + omg e) ≤ zW z + (rho (zR z k j) + omg (zE z (sL i k) j)) + d) : PT (n + d) z1 := by
  refine ⟨fun b c hb hc => ?_, ?_⟩
  · rw [u.1] at hc
    rw [u.2.1 b c hb]
    have hE : (fun a => zE z1 (sL a b) c) = (fun a => if a < 3 then (if a = i ∧ b = k ∧ c = j then e else zE z (sL a b) c) else zE z1 (sL a b) c) := by
      funext a
      by_cases ha : a < 3
      · rw [if_pos ha, u.2.2 a b c ha hb]
      · rw [if_neg ha]
    have hcg : ∀ {W : Nat} {r : vR} {E E2 : Nat → vE}, (∀ a, a < 3 → E a = E2 a) → KI W r E → KI W r E2 := fun {W r E E2} he h9 => by
      obtain ⟨h1, h2, v, h3, h4, h5⟩ := h9
      exact ⟨fun a ha q => by rw [← he a ha] at q ⊢; exact h1 a ha q, fun a ha q => by rw [← he a ha] at q; exact ⟨(h2 a ha q).1, fun b hb hne => by rw [← he b hb]; exact (h2 a ha q).2 b hb hne⟩, v, h3, h4, fun a ha q => by rw [← he a ha] at q ⊢; exact h5 a ha q⟩
    by_cases q : b = k ∧ c = j
    · rw [if_pos q]
      refine hcg (fun a ha => ?_) hK
      show upE (fun a => zE z (sL a k) j) i e a = zE z1 (sL a b) c
      rw [u.2.2 a b c ha hb]
      unfold upE
      by_cases qa : a = i
      · rw [if_pos qa, if_pos ⟨qa, q⟩]
      · rw [if_neg qa, if_neg (fun r => qa r.1), q.1, q.2]
    · rw [if_neg q]
      refine hcg (fun a ha => ?_) ((h.1 b c hb hc).mono hW)
      show zE z (sL a b) c = zE z1 (sL a b) c
      rw [u.2.2 a b c ha hb, if_neg (fun r => q r.2)]
  · have := Phi_up u hi hk hj
    have := h.2
    omega
theorem PT.le {n m : Nat} {z : cZ} (h : PT n z) (hm : n ≤ m) : PT m z := ⟨h.1, Nat.le_trans h.2 hm⟩
theorem omg_0 {e : vE} (h1 : fNew e = false) (h2 : fChg e = false) : omg e = 0 := by
  unfold omg
  rw [if_neg (by rw [h1]; decide), if_neg (by rw [h2]; decide)]
theorem omg_2 {e : vE} (h1 : fNew e = false) : omg e ≤ 2 := by
  unfold omg
  rw [if_neg (by rw [h1]; decide)]
  split
  · split <;> decide
  · decide
theorem omg_4 {e : vE} (h1 : fNew e = true) : omg e = 4 := by
  unfold omg
  rw [if_pos h1]
theorem PT.ld {n : Nat} {z : cZ} (h : PT n z) {i k j : Nat} (hi : i < 3) (hk : k < 2) (hj : j < zN z k) (h0 : (zE z (sL i k) j).1 = false) (ht : (zR z k j).1 = true) : PT n (sE z (sL i k) j (fLoad (zE z (sL i k) j) (zR z k j))) := by
  have hK := h.1 k j hk hj
  have e9 : fLoad (zE z (sL i k) j) (zR z k j) = (true, (zE z (sL i k) j).2.1, true, (zR z k j).2.1, (zR z k j).2.2.1, (zR z k j).2.1, (zR z k j).2.2.1, (zR z k j).2.2.2) := rfl
  have hw : omg (fLoad (zE z (sL i k) j) (zR z k j)) = 0 := omg_0 (by rw [e9]; rfl) (by
    rw [e9]
    show (true && (decide ((zR z k j).2.1 ≠ (zR z k j).2.1) || decide ((zR z k j).2.2.1 ≠ (zR z k j).2.2.1))) = false
    simp)
  refine PT.up (d := 0) h hi hk hj (zU_E hk) (Nat.le_refl _) ?_ (by rw [hw]; show zW z + _ ≤ _; omega)
  obtain ⟨h1, h2, v, h3, h4, h5⟩ := hK
  refine KI.w (v1 := v) ⟨h1, h2, v, h3, h4, h5⟩ hi h3 h4 (fun _ => rfl) rfl (fun a ha hne => ?_) (fun _ => ⟨h4, rfl⟩) (fun a ha hne q => h5 a ha q)
  cases q : fNew (zE z (sL a k) j)
  · rfl
  · rw [(h2 a ha q).1] at ht
    exact absurd ht (by decide)
theorem PT.e {n d : Nat} {z : cZ} (h : PT n z) {i k j : Nat} (hi : i < 3) (hk : k < 2) (hj : j < zN z k) {e : vE} (h31 : e.2.2.1 = true → e.1 = true) (hnw : fNew e = true → fNew (zE z (sL i k) j) = true) (hin : e.1 = true → (zE z (sL i k) j).1 = true) (hsn : e.2.2.1 = true → (zE z (sL i k) j).2.2.1 = true ∧ eSv e = eSv (zE z (sL i k) j) ∧ eSr e = eSr (zE z (sL i k) j)) (hp : omg e ≤ omg (zE z (sL i k) j) + d) : PT (n + d) (sE z (sL i k) j e) :=
  h.up hi hk hj (zU_E hk) (Nat.le_refl _) ((h.1 k j hk hj).e hi h31 hnw hin hsn) (by show zW z + _ ≤ _; omega)
theorem PT.lod {n : Nat} {z : cZ} (h : PT n z) {i k j : Nat} (hi : i < 3) (hk : k < 2) (hj : j < zN z k) (t : Int32) : PT n (kLd i k t j z) := by
  unfold kLd
  split
  · rename_i q
    rw [Bool.and_eq_true, Bool.and_eq_true, Bool.not_eq_true'] at q
    exact h.ld hi hk hj q.2 q.1.1
  · exact h
theorem PT.fg {n : Nat} {z : cZ} (h : PT n z) {i k j : Nat} (hi : i < 3) (hk : k < 2) (hj : j < zN z k) : PT n (kFg i k j z) :=
  PT.e (d := 0) h hi hk hj (fun q => absurd q (by show ¬ false = true; decide)) (fun q => absurd q (by show ¬ (false && !false) = true; decide)) (fun q => absurd q (by show ¬ false = true; decide)) (fun q => absurd q (by show ¬ false = true; decide)) (by rw [omg_0 (e := fForget (zE z (sL i k) j)) rfl rfl]; exact Nat.zero_le _)
theorem omg_eq {e e2 : vE} (h1 : fNew e = fNew e2) (h2 : fChg e = fChg e2) (h3 : eNm e = eNm e2) (h4 : eSn e = eSn e2) (h5 : eRf e = eRf e2) : omg e = omg e2 := by
  unfold omg
  rw [h1, h2, h3, h4, h5]
theorem PT.st {n : Nat} {z : cZ} (h : PT n z) {i k j : Nat} (hi : i < 3) (hk : k < 2) (hj : j < zN z k) : PT n (kSt i k j z) := by
  have h31 := (h.1 k j hk hj).1 i hi
  have h31 : (zE z (sL i k) j).2.2.1 = true → (zE z (sL i k) j).1 = true := h31
  refine PT.e (d := 0) h hi hk hj ?_ ?_ ?_ ?_ ?_ <;> generalize zE z (sL i k) j = v at h31 ⊢ <;> obtain ⟨b1, b2, b3, nm, rf, sn, sr, sv⟩ := v <;> cases b3
  · exact fun q => absurd q (by show ¬ false = true; decide)
  · exact fun _ => h31 rfl
  · exact fun q => absurd q (by show ¬ (false && !false) = true; decide)
  · exact fun q => q
  · exact fun q => absurd q (by show ¬ false = true; decide)
  · exact fun q => q
  · exact fun q => absurd q (by show ¬ false = true; decide)
  · exact fun q => ⟨rfl, rfl, rfl⟩
  · rw [show omg (fStrike (b1, b2, false, nm, rf, sn, sr, sv)) = 0 from omg_0 rfl rfl]
    exact Nat.zero_le _
  · exact Nat.le_of_eq (omg_eq rfl rfl rfl rfl rfl)
theorem PT.clr {n : Nat} {z : cZ} (h : PT n z) {i j : Nat} (hi : i < 3) (hj : j < zN z 0) (t : Int32) : PT n (kCl i t j z) := by
  unfold kCl
  split
  · rename_i hl
    have h31 : (zE z (sL i 0) j).2.2.1 = true → (zE z (sL i 0) j).1 = true := (h.1 0 j (by decide) hj).1 i hi
    refine PT.e (d := 0) h hi (by decide) hj ?_ ?_ ?_ ?_ ?_ <;> generalize zE z (sL i 0) j = v at h31 hl ⊢ <;> obtain ⟨b1, b2, b3, nm, rf, sn, sr, sv⟩ := v
    · exact h31
    · exact fun q => q
    · exact fun q => q
    · exact fun q => ⟨q, rfl, rfl⟩
    · show omg (b1, b2, b3, nm, -1, sn, sr, sv) ≤ omg (b1, b2, b3, nm, rf, sn, sr, sv)
      by_cases hn : fNew (b1, b2, b3, nm, rf, sn, sr, sv) = true
      · rw [omg_4 (e := (b1, b2, b3, nm, -1, sn, sr, sv)) hn, omg_4 hn]
        exact Nat.le_refl _
      · have hn2 : ¬ fNew (b1, b2, b3, nm, -1, sn, sr, sv) = true := hn
        unfold omg
        rw [if_neg hn, if_neg hn2]
        by_cases hs : nm = sn
        · rw [show (if eNm (b1, b2, b3, nm, -1, sn, sr, sv) = eSn (b1, b2, b3, nm, -1, sn, sr, sv) ∧ eRf (b1, b2, b3, nm, -1, sn, sr, sv) = -1 then 0 else 2) = 0 from if_pos ⟨hs, rfl⟩]
          split <;> exact Nat.zero_le _
        · cases b3
          · rw [if_neg (show ¬ fChg (b1, b2, false, nm, -1, sn, sr, sv) = true from fun q => ff q)]
            exact Nat.zero_le _
          · rw [show fChg (b1, b2, true, nm, rf, sn, sr, sv) = true from by show (true && (decide (nm ≠ sn) || _)) = true; rw [decide_eq_true hs]; rfl]
            rw [show (if eNm (b1, b2, true, nm, rf, sn, sr, sv) = eSn (b1, b2, true, nm, rf, sn, sr, sv) ∧ eRf (b1, b2, true, nm, rf, sn, sr, sv) = -1 then 0 else 2) = 2 from if_neg (fun q => hs q.1)]
            rw [if_pos rfl]
            split
            · split <;> decide
            · decide
  · exact h
theorem PT.set {n : Nat} {z : cZ} (h : PT n z) {i k j : Nat} (hi : i < 3) (hk : k < 2) (hj : j < zN z k) {nm9 rf9 : Int32} : PT (n + 2) (sE z (sL i k) j ((zE z (sL i k) j).1, (zE z (sL i k) j).2.1, (zE z (sL i k) j).2.2.1, nm9, rf9, (zE z (sL i k) j).2.2.2.2.2)) := by
  have h31 : (zE z (sL i k) j).2.2.1 = true → (zE z (sL i k) j).1 = true := (h.1 k j hk hj).1 i hi
  refine PT.e (d := 2) h hi hk hj h31 (fun q => q) (fun q => q) (fun q => ⟨q, rfl, rfl⟩) ?_
  generalize zE z (sL i k) j = v
  obtain ⟨b1, b2, b3, nm, rf, sn, sr, sv⟩ := v
  show omg (b1, b2, b3, nm9, rf9, sn, sr, sv) ≤ omg (b1, b2, b3, nm, rf, sn, sr, sv) + 2
  by_cases hn : fNew (b1, b2, b3, nm, rf, sn, sr, sv) = true
  · rw [omg_4 (e := (b1, b2, b3, nm9, rf9, sn, sr, sv)) hn, omg_4 hn]
    decide
  · have := omg_2 (e := (b1, b2, b3, nm9, rf9, sn, sr, sv)) (show fNew (b1, b2, b3, nm, rf, sn, sr, sv) = false from by simpa using hn)
    omega
theorem Q_it {Q : cZ → Prop} {F : Nat → cZ → cZ} {N0 : Nat → Nat} {n : Nat} (hN : ∀ j z, zN (F j z) = zN z) (h : ∀ j z, j < n → zN z = N0 → Q z → Q (F j z)) {z : cZ} (hz : zN z = N0) (hQ : Q z) : Q (itr F n z) := by
  induction n with
  | zero => exact hQ
  | succ n ih => exact h n _ (by omega) ((itr_N hN n z).trans hz) (ih (fun j z hj => h j z (by omega)))
theorem PT.rmB {n : Nat} {z : cZ} (h : PT n z) (hq : cEq z) {i b : Nat} (hi : i < 3) (hb : b < zN z 1) : PT n (kRmB i b z) := by
  unfold kRmB
  rw [hq i 0 hi (by decide)]
  refine Q_it (Q := PT n) (N0 := zN z) (kCl_N i (nI b)) (fun j z2 hj hz2 h2 => h2.clr hi (by rw [hz2]; exact hj) _) (itr_N (kLd_N i 0 (nI b)) _ _) ?_
  exact Q_it (Q := PT n) (N0 := zN z) (kLd_N i 0 (nI b)) (fun j z2 hj hz2 h2 => h2.lod hi (by decide) (by rw [hz2]; exact hj) _) rfl (h.st hi (by decide) hb)
theorem PT.rmA {n : Nat} {z : cZ} (h : PT n z) (hq : cEq z) {i a : Nat} (hi : i < 3) (ha : a < zN z 0) : PT n (kRmA i a z) := by
  have h0 : PT n (kRm0 i a z) := Q_it (Q := PT n) (N0 := zN z) (kLd_N i 1 (nI a)) (fun j z2 hj hz2 h2 => h2.lod hi (by decide) (by rw [hz2]; exact hj) _) rfl (h.st hi (by decide) ha)
  unfold kRmA
  rw [hq i 1 hi (by decide)]
  refine Q_it (Q := PT n) (N0 := zN z) (kRb_N i (nI a)) (fun j z2 hj hz2 h2 => ?_) (kRm0_N i a z) h0
  unfold kRb
  split
  · exact h2.rmB (cEq_N hz2 hq) hi (by rw [hz2]; exact hj)
  · exact h2
theorem PT.fgs {n : Nat} {z : cZ} (h : PT n z) (hq : cEq z) {i : Nat} (hi : i < 3) : PT n (itr (kFg i 1) (zN z (sL i 1)) (itr (kFg i 0) (zN z (sL i 0)) z)) := by
  rw [hq i 1 hi (by decide), hq i 0 hi (by decide)]
  refine Q_it (Q := PT n) (N0 := zN z) (kFg_N i 1) (fun j z2 hj hz2 h2 => h2.fg hi (by decide) (by rw [hz2]; exact hj)) (itr_N (kFg_N i 0) _ _) ?_
  exact Q_it (Q := PT n) (N0 := zN z) (kFg_N i 0) (fun j z2 hj hz2 h2 => h2.fg hi (by decide) (by rw [hz2]; exact hj)) rfl h
theorem PT.fi {n : Nat} {z : cZ} (h : PT n z) (hq : cEq z) (hn8 : ∀ u, u < 8 → zN z u ≤ 1024) {i k : Nat} (hi : i < 3) (hk : k < 2) (ky : Int32) : PT n (kFi i k ky z) := by
  have hn := hn8 k (by omega)
  unfold kFi
  by_cases q : inK (zN z k) ky = true
  · obtain ⟨j, hj, rfl⟩ := inK_n hn q
    rw [eV_in (by rw [hq i k hi hk]; exact hn) (by rw [hq i k hi hk]; exact hj), rV_in hn hj, nI_clamp (by omega)]
    split
    · rename_i q2
      rw [Bool.and_eq_true, Bool.not_eq_true'] at q2
      exact h.ld hi hk hj q2.2 q2.1
    · exact h
  · rw [show (rV z k ky).1 = false from by unfold rV; rw [if_neg q]; rfl]
    exact h
theorem PT.mk {n : Nat} {z : cZ} (h : PT n z) (hq : cEq z) {i k : Nat} (hi : i < 3) (hk : k < 2) (nm rf : Int32) : PT (n + 4) (kMk i k nm rf z) := by
  have hW : zW (kMk i k nm rf z) = zW z := rfl
  have hNk : zN (kMk i k nm rf z) k = zN z k + 1 := by
    rw [kMk_N hk, if_pos (Or.inl rfl)]
  have hNo : ∀ b, b < 2 → b ≠ k → zN (kMk i k nm rf z) b = zN z b := fun b hb hne => by
    rw [kMk_N hk, if_neg (by unfold sL; omega)]
  have hR : ∀ b c, b < 2 → ¬ (b = k ∧ c = zN z k) → zR (kMk i k nm rf z) b c = zR z b c := fun b c hb hne => by
    rw [kMk_R hk hb, if_neg hne]
  have hE : ∀ a b c, a < 3 → b < 2 → ¬ (b = k ∧ c = zN z k) → zE (kMk i k nm rf z) (sL a b) c = zE z (sL a b) c := fun a b c ha hb hne => by
    rw [kMk_E hk hq hi ha hb, if_neg (fun q => hne q.2), if_neg hne]
  have hE9 : ∀ a, a < 3 → zE (kMk i k nm rf z) (sL a k) (zN z k) = if a = i then (true, false, false, nm, rf, 0, 0, 0) else v0E := fun a ha => by
    rw [kMk_E hk hq hi ha hk]
    by_cases q : a = i
    · rw [if_pos ⟨q, rfl, rfl⟩, if_pos q]
    · rw [if_neg (fun r => q r.1), if_pos ⟨rfl, rfl⟩, if_neg q]
  have hR9 : zR (kMk i k nm rf z) k (zN z k) = v0R := by
    rw [kMk_R hk hk, if_pos ⟨rfl, rfl⟩]
  refine ⟨fun b c hb hc => ?_, ?_⟩
  · by_cases q : b = k ∧ c = zN z k
    · obtain ⟨rfl, rfl⟩ := q
      rw [hR9]
      refine ⟨fun a ha q => ?_, fun a ha q => ?_, 0, Nat.zero_le _, rfl, fun a ha q => ?_⟩
      · have q : (zE (kMk i b nm rf z) (sL a b) (zN z b)).2.2.1 = true := q
        rw [hE9 a ha] at q
        split at q
        · exact absurd q (by show ¬ false = true; decide)
        · exact absurd q (by show ¬ false = true; decide)
      · refine ⟨rfl, fun a2 ha2 hne => ?_⟩
        have q : fNew (zE (kMk i b nm rf z) (sL a b) (zN z b)) = true := q
        rw [hE9 a ha] at q
        show (zE (kMk i b nm rf z) (sL a2 b) (zN z b)).1 = false
        rw [hE9 a2 ha2]
        by_cases qa : a = i
        · rw [if_neg (fun r => hne (r.trans qa.symm))]
          rfl
        · rw [if_neg qa] at q
          exact absurd q (by decide)
      · have q : (zE (kMk i b nm rf z) (sL a b) (zN z b)).2.2.1 = true := q
        rw [hE9 a ha] at q
        split at q
        · exact absurd q (by show ¬ false = true; decide)
        · exact absurd q (by show ¬ false = true; decide)
    · have hc2 : c < zN z b := by
        by_cases e : b = k
        · rw [e, hNk] at hc
          rw [e]
          have : c ≠ zN z k := fun r => q ⟨e, r⟩
          omega
        · rw [hNo b hb e] at hc
          exact hc
      have h9 := h.1 b c hb hc2
      rw [hR b c hb q, hW]
      exact KI.cg (fun a ha => (hE a b c ha hb q).symm) h9
  · have hph : ∀ b c, b < 2 → ¬ (b = k ∧ c = zN z k) → phi (kMk i k nm rf z) b c = phi z b c := fun b c hb hne => by
      unfold phi
      rw [hR b c hb hne, hE 0 b c (by decide) hb hne, hE 1 b c (by decide) hb hne, hE 2 b c (by decide) hb hne]
    have h4 : phi (kMk i k nm rf z) k (zN z k) = 4 := by
      unfold phi
      rw [hR9, hE9 0 (by decide), hE9 1 (by decide), hE9 2 (by decide), show rho v0R = 0 from rfl]
      have o4 : omg (true, false, false, nm, rf, 0, 0, 0) = 4 := omg_4 rfl
      have o0 : omg v0E = 0 := omg_0 rfl rfl
      rcases (show i = 0 ∨ i = 1 ∨ i = 2 by omega) with rfl | rfl | rfl
      · rw [if_pos rfl, if_neg (by decide), if_neg (by decide), o4, o0]
      · rw [if_neg (by decide), if_pos rfl, if_neg (by decide), o4, o0]
      · rw [if_neg (by decide), if_neg (by decide), if_pos rfl, o4, o0]
    have hS : sumN (phi (kMk i k nm rf z) k) (zN z k + 1) = sumN (phi z k) (zN z k) + 4 := by
      show sumN _ (zN z k) + _ = _
      rw [h4, sumN_congr (fun c hc => hph k c hk (fun q => by have := q.2; omega))]
    have h2 := h.2
    unfold Phi at h2 ⊢
    rw [hW]
    rcases (show k = 0 ∨ k = 1 by omega) with rfl | rfl
    · rw [hNk, hS, hNo 1 (by decide) (by decide), sumN_congr (f := phi (kMk i 0 nm rf z) 1) (g := phi z 1) (fun c hc => hph 1 c (by decide) (fun q => absurd q.1 (by decide)))]
      omega
    · rw [hNk, hS, hNo 0 (by decide) (by decide), sumN_congr (f := phi (kMk i 1 nm rf z) 0) (g := phi z 0) (fun c hc => hph 0 c (by decide) (fun q => absurd q.1 (by decide)))]
      omega
theorem rho_le (r : vR) : rho r ≤ 2 := by
  unfold rho
  split
  · split <;> decide
  · decide
def QF (n i : Nat) (z : cZ) : Prop := PT n z ∧ NC i z
theorem omg_ins {v : vE} {nm rf9 : Int32} (hn : fNew v = true) (hrf : rf9 = eRf v ∨ rf9 = -1) : 1 + (rho (true, nm, rf9, 0) + omg (fSnap v (true, eNm v, rf9, 0))) ≤ 4 := by
  obtain ⟨b1, b2, b3, nm9, rf, sn, sr, sv⟩ := v
  show 1 + (rho (true, nm, rf9, 0) + omg (b1, b2, true, nm9, rf, nm9, rf9, 0)) ≤ 4
  have h0 : fNew (b1, b2, true, nm9, rf, nm9, rf9, 0) = false := by
    show (b1 && !true) = false
    simp
  by_cases e : rf9 = rf
  · rw [omg_0 h0 (by
      show (true && (decide (nm9 ≠ nm9) || decide (rf ≠ rf9))) = false
      rw [e]
      simp)]
    have := rho_le (true, nm, rf9, 0)
    omega
  · have e1 : rf9 = -1 := hrf.resolve_left e
    have := omg_2 h0
    have h1 : rho (true, nm, rf9, 0) = 1 := by
      rw [e1]
      rfl
    omega
theorem QF.in {n i : Nat} {z : cZ} (h : QF n i z) (hi : i < 3) {k j : Nat} (hk : k < 2) (hj : j < zN z k) (hn : fNew (zE z (sL i k) j) = true) {rf : Int32} (hrf : rf = eRf (zE z (sL i k) j) ∨ rf = -1) : QF n i (kIn i k j rf z) := by
  have hK := h.1.1 k j hk hj
  obtain ⟨h1, h2, v, h3, h4, h5⟩ := hK
  have hW : zW (kIn i k j rf z) = zW z + 1 := rfl
  have h29 := h2 i hi hn
  have ho := omg_ins (nm := eNm (zE z (sL i k) j)) hn hrf
  have ho2 : omg (zE z (sL i k) j) = 4 := omg_4 hn
  refine ⟨PT.up (d := 0) h.1 hi hk hj (kIn_U hk) (by rw [hW]; omega) ?_ (by rw [hW]; omega), h.2.up hi (kIn_U hk) (fClash_t rfl rfl)⟩
  refine KI.w (v1 := 0) ⟨h1, h2, v, h3, h4, h5⟩ hi (Nat.zero_le _) rfl (fun _ => (fNew_1 hn).1) ?_ (fun a ha hne => ?_) (fun _ => ⟨rfl, rfl⟩) (fun a ha hne q => ?_)
  · show ((zE z (sL i k) j).1 && !true) = false
    simp
  · have h9 : (zE z (sL a k) j).1 = false := h29.2 a ha hne
    show ((zE z (sL a k) j).1 && _) = false
    rw [h9]
    rfl
  · have h9 : (zE z (sL a k) j).1 = false := h29.2 a ha hne
    have h8 : (zE z (sL a k) j).1 = true := h1 a ha q
    rw [h9] at h8
    exact absurd h8 (by decide)
theorem QF.ia {n i : Nat} {z : cZ} (h : QF n i z) (hi : i < 3) {j : Nat} (hj : j < zN z 0) : QF n i (kIa i j z) := by
  unfold kIa
  split
  · rename_i hn
    refine h.in hi (by decide) hj hn ?_
    split
    · exact Or.inl rfl
    · exact Or.inr rfl
  · exact h
theorem QF.ib {n i : Nat} {z : cZ} (h : QF n i z) (hi : i < 3) {j : Nat} (hj : j < zN z 1) : QF n i (kIb i j z) := by
  unfold kIb
  split
  · rename_i hn
    exact h.in hi (by decide) hj hn (Or.inl rfl)
  · exact h
theorem fUpd_e (r : vR) (a b : Int32) : fUpd r a b = (r.1, a, b, r.2.2.2 + 1) := rfl
theorem fSnap_e (v : vE) (r : vR) : fSnap v r = (v.1, v.2.1, true, eNm v, eRf v, r.2.1, r.2.2.1, r.2.2.2) := rfl
theorem nI_inj {a b : Nat} (ha : a < 2 ^ 31) (hb : b < 2 ^ 31) (h : nI a = nI b) : a = b := (nI_eq ha hb).mp h
theorem QF.u {n i : Nat} {z : cZ} (h : QF n i z) (hn9 : n < 2 ^ 30) (hi : i < 3) {k j : Nat} (hk : k < 2) (hj : j < zN z k) : QF n i (kUp i k j z) := by
  unfold kUp
  split
  · rename_i hc
    have hK := h.1.1 k j hk hj
    obtain ⟨h1, h2, v, h3, h4, h5⟩ := hK
    have hW : zW (kUd i k j z) = zW z + 1 := rfl
    have hz := h.1.2
    have h33 : (zE z (sL i k) j).2.2.1 = true := fChg_3 hc
    have h11 : (zE z (sL i k) j).1 = true := h1 i hi h33
    have hcl := fClash_f (h.2 k j hk hj) (by rw [hc]; rfl)
    obtain ⟨s, s1, s2, s3⟩ := h5 i hi h33
    have s2 : eSv (zE z (sL i k) j) = nI s := s2
    have hsv : s = v := by
      refine nI_inj (by omega) (by omega) ?_
      rw [← s2, ← h4]
      exact hcl.2.symm
    have hsr : eSr (zE z (sL i k) j) = (zR z k j).2.2.1 := s3 hsv hcl.1
    have hnw : fNew (zE z (sL i k) j) = false := by
      show ((zE z (sL i k) j).1 && !(zE z (sL i k) j).2.2.1) = false
      rw [h33]
      simp
    refine ⟨PT.up (d := 0) h.1 hi hk hj (kUd_U hk) (by rw [hW]; omega) ?_ ?_, h.2.up hi (kUd_U hk) (fClash_t hcl.1 rfl)⟩
    · refine KI.w (v1 := v + 1) ⟨h1, h2, v, h3, h4, h5⟩ hi (by rw [hW]; omega) ?_ (fun _ => h11) ?_ (fun a ha hne => ?_) (fun _ => ⟨?_, rfl⟩) (fun a ha hne q => ?_)
      · rw [fUpd_e, h4]
        exact nI_1 v
      · show ((zE z (sL i k) j).1 && !true) = false
        simp
      · cases q : fNew (zE z (sL a k) j)
        · rfl
        · have h9 : (zE z (sL i k) j).1 = false := (h2 a ha q).2 i hi (fun r => hne r.symm)
          rw [h9] at h11
          exact absurd h11 (by decide)
      · rw [fUpd_e, fSnap_e]
        show (zR z k j).2.2.2 + 1 = nI (v + 1)
        rw [h4]
        exact nI_1 v
      · obtain ⟨s9, t1, t2, t3⟩ := h5 a ha q
        exact ⟨s9, by omega, t2, fun e => by omega⟩
    · rw [hW, fUpd_e, fSnap_e]
      have o0 : omg ((zE z (sL i k) j).1, (zE z (sL i k) j).2.1, true, eNm (zE z (sL i k) j), eRf (zE z (sL i k) j), eNm (zE z (sL i k) j), eRf (zE z (sL i k) j), (zR z k j).2.2.2 + 1) = 0 := omg_0 (by
        show ((zE z (sL i k) j).1 && !true) = false
        simp) (by
        show (true && (decide (eNm (zE z (sL i k) j) ≠ eNm (zE z (sL i k) j)) || decide (eRf (zE z (sL i k) j) ≠ eRf (zE z (sL i k) j)))) = false
        simp)
      have e9 : omg ((zE z (sL i k) j).1, (zE z (sL i k) j).2.1, true, eNm (zE z (sL i k) j), eRf (zE z (sL i k) j), ((zR z k j).1, eNm (zE z (sL i k) j), eRf (zE z (sL i k) j), (zR z k j).2.2.2 + 1).2.1, ((zR z k j).1, eNm (zE z (sL i k) j), eRf (zE z (sL i k) j), (zR z k j).2.2.2 + 1).2.2.1, ((zR z k j).1, eNm (zE z (sL i k) j), eRf (zE z (sL i k) j), (zR z k j).2.2.2 + 1).2.2.2) = 0 := o0
      rw [e9]
      have r1 : rho (zR z k j) = if (zR z k j).2.2.1 = -1 then 1 else 2 := by
        unfold rho
        rw [if_pos hcl.1]
      have r2 : rho ((zR z k j).1, eNm (zE z (sL i k) j), eRf (zE z (sL i k) j), (zR z k j).2.2.2 + 1) = if eRf (zE z (sL i k) j) = -1 then 1 else 2 := by
        unfold rho
        exact if_pos hcl.1
      by_cases hz9 : eNm (zE z (sL i k) j) = eSn (zE z (sL i k) j) ∧ eRf (zE z (sL i k) j) = -1
      · have hne : ¬ (zR z k j).2.2.1 = -1 := fun q => by
          have hc9 : ((zE z (sL i k) j).2.2.1 && (decide (eNm (zE z (sL i k) j) ≠ eSn (zE z (sL i k) j)) || decide (eRf (zE z (sL i k) j) ≠ eSr (zE z (sL i k) j)))) = true := hc
          rw [hz9.1, hz9.2, hsr, q] at hc9
          simp at hc9
        rw [r1, r2, if_neg hne, if_pos hz9.2]
        omega
      · have o2 : omg (zE z (sL i k) j) = 2 := by
          unfold omg
          rw [if_neg (by rw [hnw]; decide), if_pos hc, if_neg hz9]
        rw [r1, r2, o2]
        split <;> split <;> omega
  · exact h
theorem QF.d {n i : Nat} {z : cZ} (h : QF n i z) (hi : i < 3) {k j : Nat} (hk : k < 2) (hj : j < zN z k) : QF n i (kDe i k j z) := by
  unfold kDe
  split
  · rename_i hc
    have hK := h.1.1 k j hk hj
    obtain ⟨h1, h2, v, h3, h4, h5⟩ := hK
    have hW : zW (kDl i k j z) = zW z + 1 := rfl
    have hcl := fClash_f (h.2 k j hk hj) (by rw [hc, Bool.or_true])
    have hr1 : 1 ≤ rho (zR z k j) := by
      unfold rho
      rw [if_pos hcl.1]
      split <;> omega
    have o0 : omg (fForget (zE z (sL i k) j)) = 0 := omg_0 rfl rfl
    have r0 : rho (fGo (zR z k j)) = 0 := rfl
    refine ⟨PT.up (d := 0) h.1 hi hk hj (kDl_U hk) (by rw [hW]; omega) ?_ (by rw [hW, o0, r0]; omega), h.2.up hi (kDl_U hk) ?_⟩
    · refine KI.w (v1 := v) ⟨h1, h2, v, h3, h4, h5⟩ hi (by rw [hW]; omega) h4 (fun q => ff q) rfl (fun a ha hne => ?_) (fun q => ff q) (fun a ha hne q => ?_)
      · cases q : fNew (zE z (sL a k) j)
        · rfl
        · have h9 := (h2 a ha q).1
          rw [hcl.1] at h9
          exact absurd h9 (by decide)
      · obtain ⟨s9, t1, t2, t3⟩ := h5 a ha q
        exact ⟨s9, t1, t2, fun _ q => ff q⟩
    · generalize zE z (sL i k) j = v9
      generalize zR z k j = r9
      obtain ⟨b1, b2, b3, nm, rf, sn, sr, sv⟩ := v9
      obtain ⟨t, rn, rr, rv⟩ := r9
      rfl
  · exact h
theorem PT.fl {n i : Nat} {z : cZ} (h : PT n z) (hn9 : n < 2 ^ 30) (hq : cEq z) (hi : i < 3) (hc : (kCla i z || kDan i z) = false) : PT n (kFl i z) := by
  rw [Bool.or_eq_false_iff] at hc
  have c0 := hq i 0 hi (by decide)
  have c1 := hq i 1 hi (by decide)
  have q0 : QF n i z := ⟨h, NC.of hq hi hc.1⟩
  have N1 : zN (kF1 i z) = zN z := itr_N (kIa_st i).N _ _
  have q1 : QF n i (kF1 i z) := by
    unfold kF1
    rw [c0]
    exact Q_it (Q := QF n i) (N0 := zN z) (kIa_st i).N (fun j z2 hj hz2 h2 => h2.ia hi (by rw [hz2]; exact hj)) rfl q0
  have N2 : zN (kF2 i (kF1 i z)) = zN z := (itr_N (kIb_st i).N _ _).trans N1
  have q2 : QF n i (kF2 i (kF1 i z)) := by
    unfold kF2
    rw [N1, c1]
    exact Q_it (Q := QF n i) (N0 := zN z) (kIb_st i).N (fun j z2 hj hz2 h2 => h2.ib hi (by rw [hz2]; exact hj)) N1 q1
  have up : ∀ k, k < 2 → ∀ z2, zN z2 = zN z → QF n i z2 → QF n i (kF3 i k z2) ∧ zN (kF3 i k z2) = zN z := fun k hk z2 hz2 h2 => by
    unfold kF3
    rw [hz2, hq i k hi hk]
    exact ⟨Q_it (Q := QF n i) (N0 := zN z) (kUp_st i k).N (fun j z3 hj hz3 h3 => h3.u hn9 hi hk (by rw [hz3]; exact hj)) hz2 h2, (itr_N (kUp_st i k).N _ _).trans hz2⟩
  have de : ∀ k, k < 2 → ∀ z2, zN z2 = zN z → QF n i z2 → QF n i (kF4 i k z2) ∧ zN (kF4 i k z2) = zN z := fun k hk z2 hz2 h2 => by
    unfold kF4
    rw [hz2, hq i k hi hk]
    exact ⟨Q_it (Q := QF n i) (N0 := zN z) (kDe_st i k).N (fun j z3 hj hz3 h3 => h3.d hi hk (by rw [hz3]; exact hj)) hz2 h2, (itr_N (kDe_st i k).N _ _).trans hz2⟩
  have f3 := up 0 (by decide) _ N2 q2
  have f4 := up 1 (by decide) _ f3.2 f3.1
  have f5 := de 1 (by decide) _ f4.2 f4.1
  exact (de 0 (by decide) _ f5.2 f5.1).1.1
