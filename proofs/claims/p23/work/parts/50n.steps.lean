/-! P23, PURE: what the law's steps look at -/
/-- a second find does nothing -/
theorem fi_2 {z : cZ} (hq : cEq z) (hn8 : ∀ u, u < 8 → zN z u ≤ 1024) {i k j : Nat} (hi : i < 3) (hk : k < 2) (hj : j < zN z k) : kFi i k (nI j) (kFi i k (nI j) z) = kFi i k (nI j) z := by
  have hn := hn8 k (by omega)
  have N := kFi_N i k (nI j) z
  have hq2 := cEq_N N hq
  have e1 : eV (kFi i k (nI j) z) i k (nI j) = zE (kFi i k (nI j) z) (sL i k) j := eV_in (by rw [hq2 i k hi hk, N]; exact hn) (by rw [hq2 i k hi hk, N]; exact hj)
  have e2 : rV (kFi i k (nI j) z) k (nI j) = zR z k j := by
    rw [rV_in (by rw [N]; exact hn) (by rw [N]; exact hj)]
    exact zS.fi.2.1 k j hk
  have key : ((zR z k j).1 && !(zE (kFi i k (nI j) z) (sL i k) j).1) = false := by
    unfold kFi
    rw [eV_in (by rw [hq i k hi hk]; exact hn) (by rw [hq i k hi hk]; exact hj), rV_in hn hj, nI_clamp (by omega)]
    by_cases q : ((zR z k j).1 && !(zE z (sL i k) j).1) = true
    · rw [if_pos q, (zU_E (z := z) (i := i) (k := k) (j := j) (v := fLoad (zE z (sL i k) j) (zR z k j)) hk).e hi hk, fLoad_e]
      show ((zR z k j).1 && !true) = false
      simp
    · rw [if_neg q]
      simpa using q
  generalize hz : kFi i k (nI j) z = z1 at e1 e2 key ⊢
  unfold kFi
  rw [e1, e2, if_neg (by rw [key]; decide)]
/-- no such key -/
theorem fi_out {z : cZ} {i k : Nat} {ky : Int32} (hq : cEq z) (hi : i < 3) (hk : k < 2) (h : inK (zN z k) ky = false) : kFi i k ky z = z ∧ fLive (eV z i k ky) = false := by
  have e1 : rV z k ky = v0R := by
    unfold rV
    rw [if_neg (by rw [h]; decide)]
  have e2 : eV z i k ky = v0E := by
    unfold eV
    rw [hq i k hi hk, if_neg (by rw [h]; decide)]
  rw [e2]
  refine ⟨?_, rfl⟩
  unfold kFi
  rw [e1, show v0R.1 = false from rfl, Bool.false_and, if_neg (by decide)]
theorem inK_m1 (n : Nat) : inK n (-1) = false := by
  unfold inK
  rw [show decide ((-1 : Int32) < 0) = true from by decide]
  rfl
theorem inK_n0 {n : Nat} (hn : n ≤ 1024) : inK n (nI n) = false := by
  cases h : inK n (nI n)
  · rfl
  · obtain ⟨k, hk, e⟩ := inK_n hn h
    have := nI_inj (by omega) (by omega) e
    omega
/-- an object that is live stays so, while another kind's is looked for -/
theorem fi_o {z : cZ} {i k : Nat} (hq : cEq z) (hn8 : ∀ u, u < 8 → zN z u ≤ 1024) (hi : i < 3) (hk : k < 2) (ky : Int32) {b c : Nat} (hb : b < 2) (hl : (zE z (sL i b) c).1 = true) : zE (kFi i k ky z) (sL i b) c = zE z (sL i b) c := by
  rcases kFi_c hq hn8 hi hk ky with e | ⟨j, hj, -, h0, ht, e⟩
  · rw [e]
  · rw [e, (zU_E (z := z) (i := i) (k := k) (j := j) (v := fLoad (zE z (sL i k) j) (zR z k j)) hk).2.2 i b c hi hb]
    split
    · rename_i q
      rw [q.2.1, q.2.2, h0] at hl
      exact absurd hl (by decide)
    · rfl
/-- found: live -/
theorem fi_l {z : cZ} {i k j : Nat} (hq : cEq z) (hn8 : ∀ u, u < 8 → zN z u ≤ 1024) (hi : i < 3) (hk : k < 2) (hj : j < zN z k) : fLive (eV (kFi i k (nI j) z) i k (nI j)) = fLive (zE (kFi i k (nI j) z) (sL i k) j) := by
  have N := kFi_N i k (nI j) z
  have hn := hn8 k (by omega)
  rw [eV_in (by rw [cEq_N N hq i k hi hk, N]; exact hn) (by rw [cEq_N N hq i k hi hk, N]; exact hj)]
/-- what a made object is -/
theorem mk_e {i k : Nat} {nm rf : Int32} {z : cZ} (hq : cEq z) (hi : i < 3) (hk : k < 2) : zE (kMk i k nm rf z) (sL i k) (zN z k) = (true, false, false, nm, rf, 0, 0, 0) ∧ zN (kMk i k nm rf z) k = zN z k + 1 ∧ zN (kMk i k nm rf z) (1 - k) = zN z (1 - k) ∧ ∀ c, zE (kMk i k nm rf z) (sL i (1 - k)) c = zE z (sL i (1 - k)) c := by
  refine ⟨by rw [kMk_E hk hq hi hi hk, if_pos ⟨rfl, rfl, rfl⟩], by rw [kMk_N hk, if_pos (Or.inl rfl)], by rw [kMk_N hk, if_neg (by unfold sL; omega)], fun c => ?_⟩
  have n1 : ¬ (1 - k = k) := by omega
  rw [kMk_E hk hq hi hi (show 1 - k < 2 by omega), if_neg (fun q => n1 q.2.1), if_neg (fun q => n1 q.1)]
