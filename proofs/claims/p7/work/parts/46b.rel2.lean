/-! THE RELATION, 2: an author goes, an object is made, everything is forgotten; what is counted -/
theorem sE_comm {z : cZ} {u k u2 k2 : Nat} {v v2 : vE} (h : u ≠ u2) : sE (sE z u k v) u2 k2 v2 = sE (sE z u2 k2 v2) u k v := by
  unfold sE
  refine congrArg (fun f => (zN z, zR z, f, zW z, zJ z, zC z)) (funext fun a => funext fun b => ?_)
  show up2 (up2 (zE z) u k v) u2 k2 v2 a b = up2 (up2 (zE z) u2 k2 v2) u k v a b
  by_cases h1 : a = u ∧ b = k
  · have h2 : ¬ (a = u2 ∧ b = k2) := fun q => h (h1.1.symm.trans q.1)
    rw [up2_n h2, h1.1, h1.2, up2_s, up2_s]
  · by_cases h2 : a = u2 ∧ b = k2
    · rw [up2_n h1, h2.1, h2.2, up2_s, up2_s]
    · rw [up2_n h2, up2_n h1, up2_n h1, up2_n h2]
theorem kLd_St {i a j : Nat} {t : Int32} {z : cZ} : kLd i 1 t j (kSt i 0 a z) = kSt i 0 a (kLd i 1 t j z) := by
  have hne : sL i 1 ≠ sL i 0 := by unfold sL; omega
  have e1 : zE (kSt i 0 a z) (sL i 1) j = zE z (sL i 1) j := up2_n (fun q => hne q.1)
  have e2 : zR (kSt i 0 a z) 1 j = zR z 1 j := rfl
  unfold kLd
  rw [e1, e2]
  split
  · unfold kSt
    rw [show zE (sE z (sL i 1) j (fLoad (zE z (sL i 1) j) (zR z 1 j))) (sL i 0) a = zE z (sL i 0) a from up2_n (fun q => hne q.1.symm)]
    exact sE_comm (Ne.symm hne)
  · rfl
theorem itr_St {i a n : Nat} {t : Int32} {z : cZ} : itr (kLd i 1 t) n (kSt i 0 a z) = kSt i 0 a (itr (kLd i 1 t) n z) := by
  induction n with
  | zero => rfl
  | succ n ih =>
    show kLd i 1 t n (itr (kLd i 1 t) n (kSt i 0 a z)) = kSt i 0 a (kLd i 1 t n (itr (kLd i 1 t) n z))
    rw [ih, kLd_St]
theorem RZ.rm0 {z : cZ} {w : mW} (h : RZ z w) {i a : Nat} (hi : i < 3) (ha : a < zN z 0) : RZ (kRm0 i a z) (mRm0 i a w) := by
  unfold kRm0 mRm0
  rw [itr_St, ← h.1 1 (by decide)]
  refine RZ.go (RL_it (N0 := zN z) (kLd_N i 1 (nI a)) (fun j z2 w2 hj hz2 h2 => h2.ld hi (by decide) (by rw [hz2]; exact hj) _) rfl h) hi (by decide) ?_
  rw [itr_N (kLd_N i 1 (nI a))]
  exact ha
theorem kRm0_N (i a : Nat) (z : cZ) : zN (kRm0 i a z) = zN z := itr_N (kLd_N i 1 (nI a)) _ _
theorem mRm0_K (i a : Nat) (w : mW) : rdK (mRm0 i a w) = rdK w := itm_K (mLd_K i 1 (nI a)) _ _
theorem RZ.rbs {z : cZ} {w : mW} (h : RZ z w) (hq : cEq z) {i n : Nat} (hi : i < 3) (hn : n ≤ zN z 1) (t : Int32) : RZ (itr (kRb i t) n z) (itm (mRb i t) n w) :=
  RL_it (N0 := zN z) (kRb_N i t) (fun j z2 w2 hj hz2 h2 => h2.rb (cEq_N hz2 hq) hi (by rw [hz2]; omega) _) rfl h
theorem RZ.rmA {z : cZ} {w : mW} (h : RZ z w) (hq : cEq z) {i a : Nat} (hi : i < 3) (ha : a < zN z 0) : RZ (kRmA i a z) (mRmA i a w) := by
  unfold kRmA mRmA
  rw [hq i 1 hi (by decide), ← h.1 1 (by decide)]
  exact (h.rm0 hi ha).rbs (cEq_N (kRm0_N i a z) hq) hi (by rw [kRm0_N]; exact Nat.le_refl _) _
theorem cnt_cnm {z : cZ} {w : mW} (h : RZ z w) (hq : cEq z) {i : Nat} (hi : i < 3) (t : Int32) : ∀ n, n ≤ zN z 1 → cnt (fun j9 => fRefs (zE (itr (kRb i t) j9 z) (sL i 1) j9) t) n = cnm (mRef i t) (mRb i t) w n := by
  intro n
  induction n with
  | zero => intro _; rfl
  | succ n ih =>
    intro hn
    have hr := h.rbs hq hi (n := n) (by omega) t
    show cnt _ n + (if fRefs (zE (itr (kRb i t) n z) (sL i 1) n) t = true then 1 else 0) = cnm (mRef i t) (mRb i t) w n + (if mRef i t (itm (mRb i t) n w) n = true then 1 else 0)
    rw [ih (by omega), ← hr.rf hi (by decide) (by rw [itr_N (kRb_N i t)]; omega) t]
    rfl
theorem RZ.fi {z : cZ} {w : mW} (h : RZ z w) (hq : cEq z) {i k : Nat} (hi : i < 3) (hk : k < 2) (ky : Int32) : RZ (kFi i k ky z) (mFi i k ky w) := by
  have hn := h.n hk
  have hc := hq i k hi hk
  unfold kFi mFi
  rw [row_eq h hk]
  by_cases q : inK (zN z k) ky = true
  · obtain ⟨j, hj, rfl⟩ := inK_n hn q
    rw [eV_in (by omega) (by omega), rV_in (by omega) hj, nI_clamp (by omega), rE_0 (h.2.2.1 i k j hi hk hj), show (gO w i k j).1 = rdT w 7 (aP i k j) from rfl]
    split
    · rename_i q2
      rw [Bool.and_eq_true] at q2
      refine h.take hi hk hj ?_ (by rw [← h.hr hk hj]; exact q2.1)
      have e := rE_0 (h.2.2.1 i k j hi hk hj)
      rw [show (gO w i k j).1 = rdT w 7 (aP i k j) from rfl, q2.2, Bool.not_eq_true'] at e
      exact e
    · exact h
  · have q2 : mHr w k ky = false := by
      unfold mHr
      rw [← h.1 k hk, show inK (zN z k) ky = false from by simpa using q]
      rfl
    rw [q2]
    exact h
theorem RZ.fgs {z : cZ} {w : mW} (h : RZ z w) (hq : cEq z) {i : Nat} (hi : i < 3) : RZ (itr (kFg i 1) (zN z (sL i 1)) (itr (kFg i 0) (zN z (sL i 0)) z)) (mCr i w) := by
  unfold mCr
  rw [hq i 1 hi (by decide), hq i 0 hi (by decide), ← h.1 1 (by decide), ← h.1 0 (by decide)]
  refine RL_it (N0 := zN z) (kFg_N i 1) (fun j z2 w2 hj hz2 h2 => h2.fg hi (by decide) (by rw [hz2]; exact hj)) (itr_N (kFg_N i 0) _ _) ?_
  exact RL_it (N0 := zN z) (kFg_N i 0) (fun j z2 w2 hj hz2 h2 => h2.fg hi (by decide) (by rw [hz2]; exact hj)) rfl h
theorem RZ.lds {z : cZ} {w : mW} (h : RZ z w) {i k : Nat} (hi : i < 3) (hk : k < 2) (t : Int32) : RZ (itr (kLd i k t) (zN z k) z) (itm (mLd i k t) (rdK w k) w) := by
  rw [← h.1 k hk]
  exact RL_it (N0 := zN z) (kLd_N i k t) (fun j z2 w2 hj hz2 h2 => h2.ld hi hk (by rw [hz2]; exact hj) _) rfl h
/-- rows and objects behind a new key -/
theorem zAdd_R (u : Nat) (z : cZ) (b c : Nat) : zR (zAdd u z) b c = if b = u ∧ c = zN z u then v0R else zR z b c := by
  show up2 (zR z) u (zN z u) v0R b c = _
  by_cases h : b = u ∧ c = zN z u
  · rw [if_pos h, h.1, h.2, up2_s]
  · rw [if_neg h, up2_n h]
theorem zAdd_E (u : Nat) (z : cZ) (b c : Nat) : zE (zAdd u z) b c = if b = u ∧ c = zN z u then v0E else zE z b c := by
  show up2 (zE z) u (zN z u) v0E b c = _
  by_cases h : b = u ∧ c = zN z u
  · rw [if_pos h, h.1, h.2, up2_s]
  · rw [if_neg h, up2_n h]
theorem kM4_R {k : Nat} (hk : k < 2) {z : cZ} {b c : Nat} (hb : b < 2) : zR (kM4 k z) b c = if b = k ∧ c = zN z k then v0R else zR z b c := by
  unfold kM4
  rw [zAdd_R, if_neg (by unfold sL; omega), zAdd_R, if_neg (by unfold sL; omega), zAdd_R, if_neg (by unfold sL; omega), zAdd_R]
theorem kM4_E {k : Nat} (hk : k < 2) {z : cZ} (hq : cEq z) {a b c : Nat} (ha : a < 3) (hb : b < 2) : zE (kM4 k z) (sL a b) c = if b = k ∧ c = zN z k then v0E else zE z (sL a b) c := by
  have n0 := hq 0 k (by decide) hk
  have n1 := hq 1 k (by decide) hk
  have n2 := hq 2 k (by decide) hk
  unfold kM4
  rw [zAdd_E, zAdd_E, zAdd_E, zAdd_E, zAdd_N, zAdd_N, zAdd_N, zAdd_N, zAdd_N, zAdd_N]
  rw [if_neg (show ¬ sL 2 k = sL 1 k by unfold sL; omega), if_neg (show ¬ sL 2 k = sL 0 k by unfold sL; omega), if_neg (show ¬ sL 2 k = k by unfold sL; omega), if_neg (show ¬ sL 1 k = sL 0 k by unfold sL; omega), if_neg (show ¬ sL 1 k = k by unfold sL; omega), if_neg (show ¬ sL 0 k = k by unfold sL; omega), n0, n1, n2]
  by_cases h : b = k ∧ c = zN z k
  · rw [if_pos h]
    rcases (show a = 0 ∨ a = 1 ∨ a = 2 by omega) with rfl | rfl | rfl
    · rw [if_neg (by unfold sL; omega), if_neg (by unfold sL; omega), if_pos ⟨by rw [h.1], h.2⟩]
    · rw [if_neg (by unfold sL; omega), if_pos ⟨by rw [h.1], h.2⟩]
    · rw [if_pos ⟨by rw [h.1], h.2⟩]
  · rw [if_neg h, if_neg (fun q => h (by unfold sL at q; exact ⟨by omega, q.2⟩)), if_neg (fun q => h (by unfold sL at q; exact ⟨by omega, q.2⟩)), if_neg (fun q => h (by unfold sL at q; exact ⟨by omega, q.2⟩)), if_neg (fun q => by unfold sL at q; omega)]
theorem kMk_R {i k : Nat} {nm rf : Int32} {z : cZ} (hk : k < 2) {b c : Nat} (hb : b < 2) : zR (kMk i k nm rf z) b c = if b = k ∧ c = zN z k then v0R else zR z b c := kM4_R hk hb
theorem kMk_E {i k : Nat} {nm rf : Int32} {z : cZ} (hk : k < 2) (hq : cEq z) (hi : i < 3) {a b c : Nat} (ha : a < 3) (hb : b < 2) : zE (kMk i k nm rf z) (sL a b) c = if a = i ∧ b = k ∧ c = zN z k then (true, false, false, nm, rf, 0, 0, 0) else (if b = k ∧ c = zN z k then v0E else zE z (sL a b) c) := by
  show up2 (zE (kM4 k z)) (sL i k) (zN z k) (fMake (zE (kM4 k z) (sL i k) (zN z k)) nm rf) (sL a b) c = _
  by_cases h : a = i ∧ b = k ∧ c = zN z k
  · rw [if_pos h, h.1, h.2.1, h.2.2, up2_s, kM4_E hk hq hi hk, if_pos ⟨rfl, rfl⟩]
    rfl
  · rw [if_neg h, up2_n (fun q => h (by have q1 := q.1; unfold sL at q1; exact ⟨by omega, by omega, q.2⟩)), kM4_E hk hq ha hb]
theorem RZ.mk {z : cZ} {w : mW} (h : RZ z w) (hq : cEq z) {i k : Nat} (hi : i < 3) (hk : k < 2) (hn : zN z k < 1024) (nm rf : Int32) : RZ (kMk i k nm rf z) (mMk i k nm rf w) := by
  obtain ⟨h1, h2, h3, h4, h5, h6⟩ := h
  have hk1 := h1 k hk
  have hNk : ∀ b, b < 2 → zN (kMk i k nm rf z) b = upK (rdK w) k (rdK w k + 1) b := fun b hb => by
    rw [kMk_N hk]
    unfold upK
    by_cases q : b = k
    · rw [if_pos (Or.inl q), if_pos q, q, hk1]
    · rw [if_neg (by unfold sL; omega), if_neg q, h1 b hb]
  have hN2 : ∀ b, b < 2 → zN (kMk i k nm rf z) b = if b = k then zN z k + 1 else zN z b := fun b hb => by
    rw [hNk b hb]
    unfold upK
    by_cases q : b = k
    · rw [if_pos q, if_pos q, hk1]
    · rw [if_neg q, if_neg q, h1 b hb]
  refine ⟨fun b hb => by rw [hNk b hb, mMk_K], fun b c hb hc => ?_, fun a b c ha hb hc => ?_, fun b c hb hc hc2 => ?_, fun a b c ha hb hc hc2 => ?_, fun b hb => ?_⟩
  · rw [kMk_R hk hb, mMk_R]
    rw [hN2 b hb] at hc
    by_cases q : b = k ∧ c = zN z k
    · rw [if_pos q]
      have := h4 b c hb (by rw [q.1, q.2]; exact Nat.le_refl _) (by omega)
      exact ⟨by rw [this]; rfl, fun q => ff q⟩
    · rw [if_neg q]
      refine h2 b c hb ?_
      by_cases qb : b = k
      · rw [if_pos qb] at hc
        have : c ≠ zN z k := fun r => q ⟨qb, r⟩
        rw [qb]
        omega
      · rw [if_neg qb] at hc
        exact hc
  · rw [hN2 b hb] at hc
    have hc9 : c < 1024 := by
      by_cases qb : b = k
      · rw [if_pos qb] at hc
        omega
      · rw [if_neg qb] at hc
        have := h6 b hb
        omega
    rw [kMk_E hk hq hi ha hb, mMk_O hk (by omega) hb hc9]
    by_cases q : a = i ∧ b = k ∧ c = zN z k
    · rw [if_pos q, if_pos ⟨q.1, q.2.1, by rw [← hk1]; exact q.2.2⟩]
      exact ⟨Or.inr (Or.inl rfl), rfl, rfl, rfl, fun q => ff q, fun _ => ⟨rfl, rfl⟩, fun q => ff q⟩
    · rw [if_neg q, if_neg (show ¬ (a = i ∧ b = k ∧ c = rdK w k) from fun r => q ⟨r.1, r.2.1, by rw [hk1]; exact r.2.2⟩)]
      by_cases q2 : b = k ∧ c = zN z k
      · rw [if_pos q2]
        obtain ⟨g1, g2⟩ := h5 a b c ha hb (by rw [q2.1, q2.2]; exact Nat.le_refl _) hc9
        exact ⟨Or.inl g1, by rw [g1]; rfl, by rw [g2]; rfl, by rw [g1]; rfl, fun q => ff q, fun q => ff q, fun q => ff q⟩
      · rw [if_neg q2]
        refine h3 a b c ha hb ?_
        by_cases qb : b = k
        · rw [if_pos qb] at hc
          have : c ≠ zN z k := fun r => q2 ⟨qb, r⟩
          rw [qb]
          omega
        · rw [if_neg qb] at hc
          exact hc
  · rw [hN2 b hb] at hc
    rw [mMk_R]
    refine h4 b c hb ?_ hc2
    by_cases qb : b = k
    · rw [if_pos qb] at hc
      rw [qb]
      omega
    · rw [if_neg qb] at hc
      exact hc
  · rw [hN2 b hb] at hc
    have hne : ¬ (a = i ∧ b = k ∧ c = rdK w k) := fun r => by
      rw [if_pos r.2.1, r.2.2, ← hk1] at hc
      omega
    rw [mMk_O hk (by omega) hb hc2, if_neg hne]
    refine h5 a b c ha hb ?_ hc2
    by_cases qb : b = k
    · rw [if_pos qb] at hc
      rw [qb]
      omega
    · rw [if_neg qb] at hc
      exact hc
  · rw [hN2 b hb]
    by_cases qb : b = k
    · rw [if_pos qb]
      omega
    · rw [if_neg qb]
      exact h6 b hb
