def mO_makeAuthor (w : mW) (si nm : Int32) (r : Int32) (w2 : mW) : Prop := ((aMA si nm) = 0 ∧ ∃ i, aS si i ∧ nOK nm = true ∧ r = nI (rdK w 0) ∧ w2 = mMk i 0 nm (-1) (mH w 0)) ∨ ((aMA si nm) ≠ 0 ∧ w2 = mH w (aMA si nm))
def mO_makeBook (w : mW) (si nm au : Int32) (r : Int32) (w2 : mW) : Prop := ((aMB w si nm au) = 0 ∧ ∃ i, aS si i ∧ nOK nm = true ∧ mKn w i 0 au = true ∧ r = nI (rdK w 1) ∧ w2 = mMk i 1 nm au (mH w 0)) ∨ ((aMB w si nm au) ≠ 0 ∧ w2 = mH w (aMB w si nm au))
def mO_find (w : mW) (si kd ky : Int32) (r : Int32) (w2 : mW) : Prop := ((aFi si kd) = 0 ∧ ∃ i k, aS si i ∧ aK kd k ∧ r = bI (mKn (mFi i k ky (mH w 0)) i k ky) ∧ w2 = mFi i k ky (mH w 0)) ∨ ((aFi si kd) ≠ 0 ∧ w2 = mH w (aFi si kd))
def mO_books (w : mW) (si au : Int32) (r : Int32) (w2 : mW) : Prop := ((aBk w si au) = 0 ∧ ∃ i, aS si i ∧ mKn w i 0 au = true ∧ r = nI (cnt (fun j => mKn (itm (mLd i 1 au) (rdK w 1) (mH w 0)) i 1 (nI j) && decide (rdT (itm (mLd i 1 au) (rdK w 1) (mH w 0)) 10 (aP i 1 j) = au)) (rdK w 1)) ∧ w2 = (itm (mLd i 1 au) (rdK w 1) (mH w 0))) ∨ ((aBk w si au) ≠ 0 ∧ w2 = mH w (aBk w si au))
def mO_setName (w : mW) (si kd ky nm : Int32) (w2 : mW) : Prop := ((aA w si kd ky (nOK nm)) = 0 ∧ ∃ i k j, aS si i ∧ aK kd k ∧ (j < rdK w k ∧ ky = nI j) ∧ mKn w i k (nI j) = true ∧ w2 = mS (mH w 0) 9 (aP i k j) nm) ∨ ((aA w si kd ky (nOK nm)) ≠ 0 ∧ w2 = mH w (aA w si kd ky (nOK nm)))
def mO_setReference (w : mW) (si kd ky rf : Int32) (w2 : mW) : Prop := ((aSR w si kd ky rf) = 0 ∧ ∃ i k j, aS si i ∧ aK kd k ∧ (j < rdK w k ∧ ky = nI j) ∧ mKn w i k (nI j) = true ∧ (decide (rf = -1) || mKn w i (1 - k) rf) = true ∧ w2 = mS (mH (mH w 0) 0) 10 (aP i k j) rf) ∨ ((aSR w si kd ky rf) ≠ 0 ∧ w2 = mH w (aSR w si kd ky rf))
def mO_remove (w : mW) (si kd ky : Int32) (r : Int32) (w2 : mW) : Prop := ((aA w si kd ky true) = 0 ∧ ∃ i k j, aS si i ∧ aK kd k ∧ (j < rdK w k ∧ ky = nI j) ∧ mKn w i k (nI j) = true ∧ ((k = 1 ∧ r = 1 ∧ w2 = mRmB i j (mH w 0)) ∨ (k = 0 ∧ r = nI (1 + cnm (mRef i (nI j)) (mRb i (nI j)) (mRm0 i j (mH w 0)) (rdK w 1)) ∧ w2 = mRmA i j (mH w 0)))) ∨ ((aA w si kd ky true) ≠ 0 ∧ w2 = mH w (aA w si kd ky true))
def mO_name (w : mW) (si kd ky : Int32) (r : Int32) (w2 : mW) : Prop := ((aA w si kd ky true) = 0 ∧ ∃ i k j, aS si i ∧ aK kd k ∧ (j < rdK w k ∧ ky = nI j) ∧ mKn w i k (nI j) = true ∧ r = rdT w 9 (aP i k j) ∧ w2 = mH w 0) ∨ ((aA w si kd ky true) ≠ 0 ∧ w2 = mH w (aA w si kd ky true))
def mO_reference (w : mW) (si kd ky : Int32) (r : Int32) (w2 : mW) : Prop := ((aA w si kd ky true) = 0 ∧ ∃ i k j, aS si i ∧ aK kd k ∧ (j < rdK w k ∧ ky = nI j) ∧ mKn w i k (nI j) = true ∧ r = rdT w 10 (aP i k j) ∧ w2 = mH w 0) ∨ ((aA w si kd ky true) ≠ 0 ∧ w2 = mH w (aA w si kd ky true))
def mO_known (w : mW) (si : Int32) (r : Int32) (w2 : mW) : Prop := ((aSe si) = 0 ∧ ∃ i, aS si i ∧ r = nI (cnt (fun j => mKn (mH w 0) i 0 (nI j)) (rdK w 0) + cnt (fun j => mKn (mH w 0) i 1 (nI j)) (rdK w 1)) ∧ w2 = mH w 0) ∨ ((aSe si) ≠ 0 ∧ w2 = mH w (aSe si))
def mO_dirty (w : mW) (si : Int32) (r : Int32) (w2 : mW) : Prop := ((aSe si) = 0 ∧ ∃ i, aS si i ∧ r = nI (cnt (fun j => mDr (mH w 0) i 0 j) (rdK w 0) + cnt (fun j => mDr (mH w 0) i 1 j) (rdK w 1)) ∧ w2 = mH w 0) ∨ ((aSe si) ≠ 0 ∧ w2 = mH w (aSe si))
def mO_flush (w : mW) (si : Int32) (r : Int32) (w2 : mW) : Prop := ((aFl w si) = 0 ∧ ∃ i, aS si i ∧ r = nI (rdN (mFl i (mH (mWbs i w) 0)) - rdN w) ∧ w2 = mFl i (mH (mWbs i w) 0)) ∨ ((aFl w si) ≠ 0 ∧ mLk w w2 ∧ rdH w2 = aFl w si)
def mO_clear (w : mW) (si : Int32) (r : Int32) (w2 : mW) : Prop := ((aSe si) = 0 ∧ ∃ i, aS si i ∧ r = nI (cnt (fun j => mKn (mH w 0) i 0 (nI j)) (rdK w 0) + cnt (fun j => mKn (mH w 0) i 1 (nI j)) (rdK w 1)) ∧ w2 = mCr i (mH w 0)) ∨ ((aSe si) ≠ 0 ∧ w2 = mH w (aSe si))
def mO_rows (w : mW) (kd : Int32) (r : Int32) (w2 : mW) : Prop := ((aKi kd) = 0 ∧ ∃ k, aK kd k ∧ r = nI (cnt (fun j => mHr (mH w 0) k (nI j)) (rdK w k)) ∧ w2 = mH w 0) ∨ ((aKi kd) ≠ 0 ∧ w2 = mH w (aKi kd))
def mO_write (w : mW) (nu : Int32) (r : Int32) (w2 : mW) : Prop := ((aWr w nu) = 0 ∧ ∃ n, n < rdN w ∧ nu = nI n ∧ r = rdT w 15 (n % 16384) / 4096 ∧ w2 = mH w 0) ∨ ((aWr w nu) ≠ 0 ∧ w2 = mH w (aWr w nu))
def mO_written (w : mW) (nu : Int32) (r : Int32) (w2 : mW) : Prop := ((aWr w nu) = 0 ∧ ∃ n, n < rdN w ∧ nu = nI n ∧ r = rdT w 15 (n % 16384) - rdT w 15 (n % 16384) / 4096 * 4096 ∧ w2 = mH w 0) ∨ ((aWr w nu) ≠ 0 ∧ w2 = mH w (aWr w nu))
def mO_rowName (w : mW) (kd ky : Int32) (r : Int32) (w2 : mW) : Prop := ((aRw w kd ky) = 0 ∧ ∃ k j, aK kd k ∧ (j < rdK w k ∧ ky = nI j) ∧ mHr w k (nI j) = true ∧ r = rdT w 3 (rP k j) ∧ w2 = mH w 0) ∨ ((aRw w kd ky) ≠ 0 ∧ w2 = mH w (aRw w kd ky))
def mO_rowReference (w : mW) (kd ky : Int32) (r : Int32) (w2 : mW) : Prop := ((aRw w kd ky) = 0 ∧ ∃ k j, aK kd k ∧ (j < rdK w k ∧ ky = nI j) ∧ mHr w k (nI j) = true ∧ r = rdT w 4 (rP k j) ∧ w2 = mH w 0) ∨ ((aRw w kd ky) ≠ 0 ∧ w2 = mH w (aRw w kd ky))
def mO_rowVersion (w : mW) (kd ky : Int32) (r : Int32) (w2 : mW) : Prop := ((aRw w kd ky) = 0 ∧ ∃ k j, aK kd k ∧ (j < rdK w k ∧ ky = nI j) ∧ mHr w k (nI j) = true ∧ r = rdT w 5 (rP k j) ∧ w2 = mH w 0) ∨ ((aRw w kd ky) ≠ 0 ∧ w2 = mH w (aRw w kd ky))
/-- what stays true of the reference's state -/
def wSt (w w2 : mW) : Prop := mInv w2 ∧ (∀ k, k < 2 → rdK w2 k ≤ rdK w k + 1) ∧ rdN w2 ≤ rdN w + 6144
theorem wSt.keep {w w2 : mW} (hI : mInv w2) (hK : rdK w2 = rdK w) (hN : rdN w2 ≤ rdN w + 6144) : wSt w w2 := ⟨hI, fun k _ => by rw [hK]; exact Nat.le_succ _, hN⟩
theorem wSt.H {w : mW} (hI : mInv w) (v : Int32) : wSt w (mH w v) := wSt.keep hI.H rfl (Nat.le_add_right _ _)
theorem itm_Nz {F : Nat → mW → mW} (h : ∀ j w, rdN (F j w) = rdN w) (n : Nat) (w : mW) : rdN (itm F n w) = rdN w := by
  induction n with
  | zero => rfl
  | succ n ih => exact (h n _).trans ih
theorem mLd_N (i k : Nat) (t : Int32) (j : Nat) (w : mW) : rdN (mLd i k t j w) = rdN w := by
  unfold mLd
  split <;> rfl
theorem mRmB_N (i b : Nat) (w : mW) : rdN (mRmB i b w) = rdN w := (itm_Nz (F := mCl i (nI b)) (fun _ _ => rfl) _ _).trans (itm_Nz (mLd_N i 0 (nI b)) _ _)
theorem mRb_N (i : Nat) (t : Int32) (j : Nat) (w : mW) : rdN (mRb i t j w) = rdN w := by
  unfold mRb
  split
  · exact mRmB_N i j w
  · rfl
theorem mRmA_N (i a : Nat) (w : mW) : rdN (mRmA i a w) = rdN w := (itm_Nz (mRb_N i (nI a)) _ _).trans (itm_Nz (mLd_N i 1 (nI a)) _ _)
theorem mRmA_K (i a : Nat) (w : mW) : rdK (mRmA i a w) = rdK w := (itm_K (mRb_K i (nI a)) _ _).trans (itm_K (mLd_K i 1 (nI a)) _ _)
theorem mFi_K (i k : Nat) (ky : Int32) (w : mW) : rdK (mFi i k ky w) = rdK w := by
  unfold mFi
  split <;> rfl
theorem mFi_N (i k : Nat) (ky : Int32) (w : mW) : rdN (mFi i k ky w) = rdN w := by
  unfold mFi
  split <;> rfl
theorem mCr_K (i : Nat) (w : mW) : rdK (mCr i w) = rdK w := (itm_K (mFg_K i 1) _ _).trans (itm_K (mFg_K i 0) _ _)
theorem mCr_N (i : Nat) (w : mW) : rdN (mCr i w) = rdN w := (itm_Nz (F := mFg i 1) (fun _ _ => rfl) _ _).trans (itm_Nz (F := mFg i 0) (fun _ _ => rfl) _ _)
theorem mFl_K (i : Nat) (w : mW) : rdK (mFl i w) = rdK w := (itm_K (mDe_K i 0) _ _).trans ((itm_K (mDe_K i 1) _ _).trans ((itm_K (mUp_K i 1) _ _).trans ((itm_K (mUp_K i 0) _ _).trans ((itm_K (mIn_K i 1) _ _).trans (itm_K (mIn_K i 0) _ _)))))
theorem mFi_Iy {w : mW} {i k : Nat} {ky : Int32} (h : mInv w) (hi : i < 3) (hk : k < 2) : mInv (mFi i k ky w) := by
  by_cases q : mHr w k ky = true
  · obtain ⟨j, hj, rfl⟩ := mHr_in (h.2.2 k hk) q
    exact mFi_I h hi hk (by have := h.2.2 k hk; omega)
  · unfold mFi
    rw [if_neg (fun r => q ((Bool.and_eq_true _ _).mp r).1)]
    exact h
theorem mKn_rOK {w : mW} {i k : Nat} {r : Int32} (hn : rdK w k ≤ 1024) (h : mKn w i k r = true) : rOK w k r := by
  obtain ⟨j, h1, h2⟩ := mKn_in hn h
  exact Or.inr ⟨j, h1, h2⟩
/-- what stays true of the mapper's state -/
def zSt (z z1 : cZ) : Prop := cEq z1 ∧ ∀ u, u < 8 → zN z1 u ≤ zN z u + 1
theorem zSt.keep {z z1 : cZ} (h : cEq z) (hN : zN z1 = zN z) : zSt z z1 := ⟨fun i k hi hk => by rw [hN]; exact h i k hi hk, fun u _ => by rw [hN]; exact Nat.le_succ _⟩
theorem zAdd_N (u v : Nat) (z : cZ) : zN (zAdd u z) v = if v = u then zN z v + 1 else zN z v := by
  show (if v = u then zN z u + 1 else zN z v) = _
  by_cases h : v = u
  · rw [if_pos h, if_pos h, h]
  · rw [if_neg h, if_neg h]
theorem kM4_N {k : Nat} (hk : k < 2) (u : Nat) (z : cZ) : zN (kM4 k z) u = if (u = k ∨ u = sL 0 k ∨ u = sL 1 k ∨ u = sL 2 k) then zN z u + 1 else zN z u := by
  unfold kM4
  rw [zAdd_N, zAdd_N, zAdd_N, zAdd_N]
  unfold sL
  by_cases h0 : u = k
  · rw [if_neg (by omega), if_neg (by omega), if_neg (by omega), if_pos h0, if_pos (Or.inl h0)]
  · by_cases h1 : u = 2 + 2 * 0 + k
    · rw [if_neg (by omega), if_neg (by omega), if_pos h1, if_neg h0, if_pos (Or.inr (Or.inl h1))]
    · by_cases h2 : u = 2 + 2 * 1 + k
      · rw [if_neg (by omega), if_pos h2, if_neg h1, if_neg h0, if_pos (Or.inr (Or.inr (Or.inl h2)))]
      · by_cases h3 : u = 2 + 2 * 2 + k
        · rw [if_pos h3, if_neg h2, if_neg h1, if_neg h0, if_pos (Or.inr (Or.inr (Or.inr h3)))]
        · rw [if_neg h3, if_neg h2, if_neg h1, if_neg h0, if_neg (by omega)]
theorem kMk_N {i k : Nat} {nm rf : Int32} {z : cZ} (hk : k < 2) (u : Nat) : zN (kMk i k nm rf z) u = if (u = k ∨ u = sL 0 k ∨ u = sL 1 k ∨ u = sL 2 k) then zN z u + 1 else zN z u := kM4_N hk u z
theorem kMk_S {i k : Nat} {nm rf : Int32} {z : cZ} (hk : k < 2) (h : cEq z) : zSt z (kMk i k nm rf z) := by
  refine ⟨fun a b ha hb => ?_, fun u _ => ?_⟩
  · rw [kMk_N hk, kMk_N hk, h a b ha hb]
    by_cases q : b = k
    · rw [if_pos, if_pos (Or.inl q)]
      rw [q]
      rcases (show a = 0 ∨ a = 1 ∨ a = 2 by omega) with rfl | rfl | rfl
      · exact Or.inr (Or.inl rfl)
      · exact Or.inr (Or.inr (Or.inl rfl))
      · exact Or.inr (Or.inr (Or.inr rfl))
    · rw [if_neg, if_neg]
      · unfold sL
        omega
      · unfold sL
        omega
  · rw [kMk_N hk]
    split
    · exact Nat.le_refl _
    · exact Nat.le_succ _
theorem kFi_N (i k : Nat) (ky : Int32) (z : cZ) : zN (kFi i k ky z) = zN z := by
  unfold kFi
  split <;> rfl
theorem kRmA_N (i a : Nat) (z : cZ) : zN (kRmA i a z) = zN z := (itr_N (kRb_N i (nI a)) _ _).trans (itr_N (kLd_N i 1 (nI a)) _ _)
theorem kFl_N (i : Nat) (z : cZ) : zN (kFl i z) = zN z := (itr_N (kDe_st i 0).N _ _).trans ((itr_N (kDe_st i 1).N _ _).trans ((itr_N (kUp_st i 1).N _ _).trans ((itr_N (kUp_st i 0).N _ _).trans ((itr_N (kIb_st i).N _ _).trans (itr_N (kIa_st i).N _ _)))))
theorem upK_le2 (f : Nat → Nat) (k b : Nat) : upK f k (f k + 1) b ≤ f b + 1 := by
  unfold upK
  split
  · rename_i q
    rw [q]
    exact Nat.le_refl _
  · exact Nat.le_succ _
theorem w_makeAuthor {w w2 : mW} {si nm r : Int32} (h : mO_makeAuthor w si nm r w2) (hI : mInv w) (hn : rdK w 0 < 1024) : wSt w w2 := by
  rcases h with ⟨-, ⟨i, a1, a2, a3, rfl⟩⟩ | ⟨-, rfl⟩
  · exact ⟨mMk_I hI.H (by decide) hn (Or.inl rfl), fun k _ => upK_le2 _ _ _, Nat.le_add_right _ _⟩
  · exact wSt.H hI _
theorem w_makeBook {w w2 : mW} {si nm au r : Int32} (h : mO_makeBook w si nm au r w2) (hI : mInv w) (hn : rdK w 1 < 1024) : wSt w w2 := by
  rcases h with ⟨-, ⟨i, a1, a2, a3, a4, rfl⟩⟩ | ⟨-, rfl⟩
  · exact ⟨mMk_I hI.H (by decide) hn (mKn_rOK (w := w) (i := i) (k := 0) (hI.2.2 0 (by decide)) a3), fun k _ => upK_le2 _ _ _, Nat.le_add_right _ _⟩
  · exact wSt.H hI _
theorem w_find {w w2 : mW} {si kd ky r : Int32} (h : mO_find w si kd ky r w2) (hI : mInv w) : wSt w w2 := by
  rcases h with ⟨-, ⟨i, k, a1, a2, a3, rfl⟩⟩ | ⟨-, rfl⟩
  · exact wSt.keep (mFi_Iy hI.H a1.1 a2.1) (mFi_K _ _ _ _) (by rw [mFi_N]; exact Nat.le_add_right _ _)
  · exact wSt.H hI _
theorem w_books {w w2 : mW} {si au r : Int32} (h : mO_books w si au r w2) (hI : mInv w) : wSt w w2 := by
  rcases h with ⟨-, ⟨i, a1, a2, a3, rfl⟩⟩ | ⟨-, rfl⟩
  · have hkb := hI.2.2 1 (by decide)
    exact wSt.keep (itm_I (fun j w hj h => mLd_I h a1.1 (by decide) (by omega)) hI.H) (itm_K (mLd_K i 1 au) _ _) (by rw [itm_Nz (mLd_N i 1 au)]; exact Nat.le_add_right _ _)
  · exact wSt.H hI _
theorem w_setName {w w2 : mW} {si kd ky nm : Int32} (h : mO_setName w si kd ky nm w2) (hI : mInv w) : wSt w w2 := by
  rcases h with ⟨-, ⟨i, k, j, a1, a2, a3, a4, rfl⟩⟩ | ⟨-, rfl⟩
  · have hkb := hI.2.2 k a2.1
    exact wSt.keep (mS9_I hI.H a1.1 a2.1 (by omega)) rfl (Nat.le_add_right _ _)
  · exact wSt.H hI _
theorem w_setReference {w w2 : mW} {si kd ky rf : Int32} (h : mO_setReference w si kd ky rf w2) (hI : mInv w) : wSt w w2 := by
  rcases h with ⟨-, ⟨i, k, j, a1, a2, a3, a4, a5, rfl⟩⟩ | ⟨-, rfl⟩
  · have hkb := hI.2.2 k a2.1
    have hk := a2.1
    refine wSt.keep (mS10_I hI.H.H a1.1 a2.1 (by omega) ?_) rfl (Nat.le_add_right _ _)
    rcases (Bool.or_eq_true _ _).mp a5 with q | q
    · exact Or.inl (of_decide_eq_true q)
    · exact mKn_rOK (w := w) (i := i) (k := 1 - k) (hI.2.2 (1 - k) (by omega)) q
  · exact wSt.H hI _
theorem w_remove {w w2 : mW} {si kd ky r : Int32} (h : mO_remove w si kd ky r w2) (hI : mInv w) : wSt w w2 := by
  rcases h with ⟨-, ⟨i, k, j, a1, a2, a3, a4, (⟨a5, a6, rfl⟩ | ⟨a5, a6, rfl⟩)⟩⟩ | ⟨-, rfl⟩
  · have hkb := hI.2.2 k a2.1
    exact wSt.keep (mRmB_I hI.H a1.1 (by omega)) (mRmB_K _ _ _) (by rw [mRmB_N]; exact Nat.le_add_right _ _)
  · have hkb := hI.2.2 k a2.1
    exact wSt.keep (mRmA_I hI.H a1.1 (by omega)) (mRmA_K _ _ _) (by rw [mRmA_N]; exact Nat.le_add_right _ _)
  · exact wSt.H hI _
theorem w_name {w w2 : mW} {si kd ky r : Int32} (h : mO_name w si kd ky r w2) (hI : mInv w) : wSt w w2 := by
  rcases h with ⟨-, ⟨i, k, j, a1, a2, a3, a4, a5, rfl⟩⟩ | ⟨-, rfl⟩
  · exact wSt.H hI _
  · exact wSt.H hI _
theorem w_reference {w w2 : mW} {si kd ky r : Int32} (h : mO_reference w si kd ky r w2) (hI : mInv w) : wSt w w2 := by
  rcases h with ⟨-, ⟨i, k, j, a1, a2, a3, a4, a5, rfl⟩⟩ | ⟨-, rfl⟩
  · exact wSt.H hI _
  · exact wSt.H hI _
theorem w_known {w w2 : mW} {si r : Int32} (h : mO_known w si r w2) (hI : mInv w) : wSt w w2 := by
  rcases h with ⟨-, ⟨i, a1, a2, rfl⟩⟩ | ⟨-, rfl⟩
  · exact wSt.H hI _
  · exact wSt.H hI _
theorem w_dirty {w w2 : mW} {si r : Int32} (h : mO_dirty w si r w2) (hI : mInv w) : wSt w w2 := by
  rcases h with ⟨-, ⟨i, a1, a2, rfl⟩⟩ | ⟨-, rfl⟩
  · exact wSt.H hI _
  · exact wSt.H hI _
theorem w_rows {w w2 : mW} {kd r : Int32} (h : mO_rows w kd r w2) (hI : mInv w) : wSt w w2 := by
  rcases h with ⟨-, ⟨k, a1, a2, rfl⟩⟩ | ⟨-, rfl⟩
  · exact wSt.H hI _
  · exact wSt.H hI _
theorem w_rowName {w w2 : mW} {kd ky r : Int32} (h : mO_rowName w kd ky r w2) (hI : mInv w) : wSt w w2 := by
  rcases h with ⟨-, ⟨k, j, a1, a2, a3, a4, rfl⟩⟩ | ⟨-, rfl⟩
  · exact wSt.H hI _
  · exact wSt.H hI _
theorem w_rowReference {w w2 : mW} {kd ky r : Int32} (h : mO_rowReference w kd ky r w2) (hI : mInv w) : wSt w w2 := by
  rcases h with ⟨-, ⟨k, j, a1, a2, a3, a4, rfl⟩⟩ | ⟨-, rfl⟩
  · exact wSt.H hI _
  · exact wSt.H hI _
theorem w_rowVersion {w w2 : mW} {kd ky r : Int32} (h : mO_rowVersion w kd ky r w2) (hI : mInv w) : wSt w w2 := by
  rcases h with ⟨-, ⟨k, j, a1, a2, a3, a4, rfl⟩⟩ | ⟨-, rfl⟩
  · exact wSt.H hI _
  · exact wSt.H hI _
theorem w_write {w w2 : mW} {nu r : Int32} (h : mO_write w nu r w2) (hI : mInv w) : wSt w w2 := by
  rcases h with ⟨-, ⟨n9, a1, a2, a3, rfl⟩⟩ | ⟨-, rfl⟩
  · exact wSt.H hI _
  · exact wSt.H hI _
theorem w_written {w w2 : mW} {nu r : Int32} (h : mO_written w nu r w2) (hI : mInv w) : wSt w w2 := by
  rcases h with ⟨-, ⟨n9, a1, a2, a3, rfl⟩⟩ | ⟨-, rfl⟩
  · exact wSt.H hI _
  · exact wSt.H hI _
theorem w_clear {w w2 : mW} {si r : Int32} (h : mO_clear w si r w2) (hI : mInv w) : wSt w w2 := by
  rcases h with ⟨-, ⟨i, a1, a2, rfl⟩⟩ | ⟨-, rfl⟩
  · exact wSt.keep (mCr_I hI.H a1.1) (mCr_K _ _) (by rw [mCr_N]; exact Nat.le_add_right _ _)
  · exact wSt.H hI _
theorem w_flush {w w2 : mW} {si r : Int32} (h : mO_flush w si r w2) (hI : mInv w) : wSt w w2 := by
  rcases h with ⟨-, ⟨i, a1, a2, rfl⟩⟩ | ⟨-, l, -⟩
  · have hI2 : mInv (mH (mWbs i w) 0) := (hI.lk mWbs_L).H
    exact wSt.keep (mFl_I hI2 a1.1) ((mFl_K _ _).trans (mWbs_L (i := i) (w := w)).1) (Nat.le_trans (mFl_N hI2).2 (by show rdN (mWbs i w) + 6144 ≤ _; rw [(mWbs_L (i := i) (w := w)).2.1]; exact Nat.le_refl _))
  · exact wSt.keep (hI.lk l) l.1 (by rw [l.2.1]; exact Nat.le_add_right _ _)
theorem z_makeAuthor {z z1 : cZ} {si nm k : Int32} {v : Int64} (h : cO_makeAuthor z si nm k v z1) (hq : cEq z) : zSt z z1 := by
  rcases h with ⟨-, ⟨r, -, i, a1, a2, (⟨a3, a4, rfl⟩ | ⟨a3, a4, rfl⟩)⟩⟩ | ⟨-, rfl⟩
  · exact kMk_S (by decide) hq
  · exact zSt.keep hq rfl
  · exact zSt.keep hq rfl
theorem z_makeBook {z z1 : cZ} {si nm au k : Int32} {v : Int64} (h : cO_makeBook z si nm au k v z1) (hq : cEq z) : zSt z z1 := by
  rcases h with ⟨-, ⟨r, -, i, a1, a2, a6, (⟨a3, a4, rfl⟩ | ⟨a3, a4, rfl⟩)⟩⟩ | ⟨-, rfl⟩
  · exact kMk_S (by decide) hq
  · exact zSt.keep hq rfl
  · exact zSt.keep hq rfl
theorem z_find {z z1 : cZ} {si kd ky k : Int32} {v : Int64} (h : cO_find z si kd ky k v z1) (hq : cEq z) : zSt z z1 := by
  rcases h with ⟨-, ⟨r, -, i, k, a1, a2, a3, rfl⟩⟩ | ⟨-, rfl⟩
  · exact zSt.keep hq (kFi_N _ _ _ _)
  · exact zSt.keep hq rfl
theorem z_books {z z1 : cZ} {si au k : Int32} {v : Int64} (h : cO_books z si au k v z1) (hq : cEq z) : zSt z z1 := by
  rcases h with ⟨-, ⟨r, -, i, a1, a2, a3, rfl⟩⟩ | ⟨-, rfl⟩
  · exact zSt.keep hq (itr_N (kLd_N i 1 au) _ _)
  · exact zSt.keep hq rfl
theorem z_setName {z z1 : cZ} {si kd ky nm k : Int32} (h : cO_setName z si kd ky nm k z1) (hq : cEq z) : zSt z z1 := by
  rcases h with ⟨-, ⟨i, k, j, a1, a2, a3, a4, a6, rfl⟩⟩ | ⟨-, rfl⟩
  · exact zSt.keep hq rfl
  · exact zSt.keep hq rfl
theorem z_setReference {z z1 : cZ} {si kd ky rf k : Int32} (h : cO_setReference z si kd ky rf k z1) (hq : cEq z) : zSt z z1 := by
  rcases h with ⟨-, ⟨i, k, j, a1, a2, a3, a4, a6, a7, rfl⟩⟩ | ⟨-, rfl⟩
  · exact zSt.keep hq rfl
  · exact zSt.keep hq rfl
theorem z_remove {z z1 : cZ} {si kd ky k : Int32} {v : Int64} (h : cO_remove z si kd ky k v z1) (hq : cEq z) : zSt z z1 := by
  rcases h with ⟨-, ⟨r, -, i, k, j, a1, a2, a3, a4, (⟨a6, a7, rfl⟩ | ⟨a6, a7, rfl⟩)⟩⟩ | ⟨-, rfl⟩
  · exact zSt.keep hq (kRmA_N _ _ _)
  · exact zSt.keep hq (kRmB_N _ _ _)
  · exact zSt.keep hq rfl
theorem z_name {z z1 : cZ} {si kd ky k : Int32} {v : Int64} (h : cO_name z si kd ky k v z1) (hq : cEq z) : zSt z z1 := by
  rcases h with ⟨-, ⟨r, -, i, k, j, a1, a2, a3, a4, a6, rfl⟩⟩ | ⟨-, rfl⟩
  · exact zSt.keep hq rfl
  · exact zSt.keep hq rfl
theorem z_reference {z z1 : cZ} {si kd ky k : Int32} {v : Int64} (h : cO_reference z si kd ky k v z1) (hq : cEq z) : zSt z z1 := by
  rcases h with ⟨-, ⟨r, -, i, k, j, a1, a2, a3, a4, a6, rfl⟩⟩ | ⟨-, rfl⟩
  · exact zSt.keep hq rfl
  · exact zSt.keep hq rfl
theorem z_known {z z1 : cZ} {si k : Int32} {v : Int64} (h : cO_known z si k v z1) (hq : cEq z) : zSt z z1 := by
  rcases h with ⟨-, ⟨r, -, i, a1, a2, rfl⟩⟩ | ⟨-, rfl⟩
  · exact zSt.keep hq rfl
  · exact zSt.keep hq rfl
theorem z_dirty {z z1 : cZ} {si k : Int32} {v : Int64} (h : cO_dirty z si k v z1) (hq : cEq z) : zSt z z1 := by
  rcases h with ⟨-, ⟨r, -, i, a1, a2, rfl⟩⟩ | ⟨-, rfl⟩
  · exact zSt.keep hq rfl
  · exact zSt.keep hq rfl
theorem z_flush {z z1 : cZ} {si k : Int32} {v : Int64} (h : cO_flush z si k v z1) (hq : cEq z) : zSt z z1 := by
  rcases h with ⟨-, ⟨r, -, i, a1, a2, a3, a4, rfl⟩⟩ | ⟨-, rfl⟩
  · exact zSt.keep hq (kFl_N _ _)
  · exact zSt.keep hq rfl
theorem z_clear {z z1 : cZ} {si k : Int32} {v : Int64} (h : cO_clear z si k v z1) (hq : cEq z) : zSt z z1 := by
  rcases h with ⟨-, ⟨r, -, i, a1, a3, rfl⟩⟩ | ⟨-, rfl⟩
  · exact zSt.keep hq ((itr_N (kFg_N i 1) _ _).trans (itr_N (kFg_N i 0) _ _))
  · exact zSt.keep hq rfl
theorem z_rows {z z1 : cZ} {kd k : Int32} {v : Int64} (h : cO_rows z kd k v z1) (hq : cEq z) : zSt z z1 := by
  rcases h with ⟨-, ⟨r, -, i, a1, a2, rfl⟩⟩ | ⟨-, rfl⟩
  · exact zSt.keep hq rfl
  · exact zSt.keep hq rfl
theorem z_rowName {z z1 : cZ} {kd ky k : Int32} {v : Int64} (h : cO_rowName z kd ky k v z1) (hq : cEq z) : zSt z z1 := by
  rcases h with ⟨-, ⟨r, -, k, a1, a2, a3, rfl⟩⟩ | ⟨-, rfl⟩
  · exact zSt.keep hq rfl
  · exact zSt.keep hq rfl
theorem z_rowReference {z z1 : cZ} {kd ky k : Int32} {v : Int64} (h : cO_rowReference z kd ky k v z1) (hq : cEq z) : zSt z z1 := by
  rcases h with ⟨-, ⟨r, -, k, a1, a2, a3, rfl⟩⟩ | ⟨-, rfl⟩
  · exact zSt.keep hq rfl
  · exact zSt.keep hq rfl
theorem z_rowVersion {z z1 : cZ} {kd ky k : Int32} {v : Int64} (h : cO_rowVersion z kd ky k v z1) (hq : cEq z) : zSt z z1 := by
  rcases h with ⟨-, ⟨r, -, k, a1, a2, a3, rfl⟩⟩ | ⟨-, rfl⟩
  · exact zSt.keep hq rfl
  · exact zSt.keep hq rfl
theorem z_write {z z1 : cZ} {nu k : Int32} {v : Int64} (h : cO_write z nu k v z1) (hq : cEq z) : zSt z z1 := by
  rcases h with ⟨-, ⟨r, -, j, a1, a2, a3, rfl⟩⟩ | ⟨-, rfl⟩
  · exact zSt.keep hq rfl
  · exact zSt.keep hq rfl
theorem z_written {z z1 : cZ} {nu k : Int32} {v : Int64} (h : cO_written z nu k v z1) (hq : cEq z) : zSt z z1 := by
  rcases h with ⟨-, ⟨r, -, j, a1, a2, a3, rfl⟩⟩ | ⟨-, rfl⟩
  · exact zSt.keep hq rfl
  · exact zSt.keep hq rfl
/-- the journal's room -/
def fStC (F : Nat → cZ → cZ) : Prop := ∀ j z, zC (F j z) ≤ max (zC z) (2 * zW z)
theorem kNo_C2 (ac : Int32) (k j : Nat) (z : cZ) : zC (kNo ac k j z) ≤ max (zC z) (2 * zW z) := by
  show (if zW z < zC z then zC z else zC z + zW z) ≤ _
  split <;> omega
/-- z1 comes of z by at most n writes -/
def zGr (n : Nat) (z z1 : cZ) : Prop := zN z1 = zN z ∧ zC z ≤ zC z1 ∧ zC z1 ≤ max (zC z) (2 * (zW z + n)) ∧ zW z ≤ zW z1 ∧ zW z1 ≤ zW z + n
theorem zGr.tr {n m : Nat} {z z1 z2 : cZ} (h1 : zGr n z z1) (h2 : zGr m z1 z2) : zGr (n + m) z z2 := by
  obtain ⟨a1, a2, a3, a4, a5⟩ := h1
  obtain ⟨b1, b2, b3, b4, b5⟩ := h2
  exact ⟨b1.trans a1, by omega, by omega, by omega, by omega⟩
theorem zGr.le {n m : Nat} {z z1 : cZ} (h1 : zGr n z z1) (h : n ≤ m) : zGr m z z1 := by
  obtain ⟨a1, a2, a3, a4, a5⟩ := h1
  exact ⟨a1, a2, by omega, a4, by omega⟩
theorem itr_G {F : Nat → cZ → cZ} (h : ∀ j z, zGr 1 z (F j z)) (n : Nat) (z : cZ) : zGr n z (itr F n z) := by
  induction n with
  | zero => exact ⟨rfl, Nat.le_refl _, by show zC z ≤ _; omega, Nat.le_refl _, Nat.le_refl _⟩
  | succ n ih => exact ih.tr (h n _)
theorem zGr.no {ac : Int32} {k j : Nat} {z : cZ} : zGr 1 z (kNo ac k j z) := ⟨rfl, kNo_C ac k j z, Nat.le_trans (kNo_C2 ac k j z) (by omega), Nat.le_succ _, Nat.le_refl _⟩
theorem zGr.rf {z : cZ} : zGr 1 z z := ⟨rfl, Nat.le_refl _, by omega, Nat.le_refl _, Nat.le_succ _⟩
theorem kIa_G (i j : Nat) (z : cZ) : zGr 1 z (kIa i j z) := by
  unfold kIa
  split
  · exact zGr.no (ac := 0) (k := 0) (j := j) (z := sR z 0 j _)
  · exact zGr.rf
theorem kIb_G (i j : Nat) (z : cZ) : zGr 1 z (kIb i j z) := by
  unfold kIb
  split
  · exact zGr.no (ac := 0) (k := 1) (j := j) (z := sR z 1 j _)
  · exact zGr.rf
theorem kUp_G (i k j : Nat) (z : cZ) : zGr 1 z (kUp i k j z) := by
  unfold kUp
  split
  · exact zGr.no (ac := 1) (k := k) (j := j) (z := sR z k j _)
  · exact zGr.rf
theorem kDe_G (i k j : Nat) (z : cZ) : zGr 1 z (kDe i k j z) := by
  unfold kDe
  split
  · exact zGr.no (ac := 2) (k := k) (j := j) (z := sR z k j _)
  · exact zGr.rf
theorem kFl_G {i : Nat} {z : cZ} (hi : i < 3) (hn : ∀ u, u < 8 → zN z u ≤ 1024) : zGr 6144 z (kFl i z) := by
  have n0 : zN z (sL i 0) ≤ 1024 := hn _ (by unfold sL; omega)
  have n1 : zN z (sL i 1) ≤ 1024 := hn _ (by unfold sL; omega)
  have g1 : zGr 1024 z (kF1 i z) := (itr_G (kIa_G i) _ z).le n0
  have g2 : zGr 1024 (kF1 i z) (kF2 i (kF1 i z)) := (itr_G (kIb_G i) _ _).le (by rw [g1.1]; exact n1)
  have g3 : zGr 1024 (kF2 i (kF1 i z)) (kF3 i 0 (kF2 i (kF1 i z))) := (itr_G (kUp_G i 0) _ _).le (by rw [g2.1, g1.1]; exact n0)
  have g4 : zGr 1024 (kF3 i 0 (kF2 i (kF1 i z))) (kF3 i 1 (kF3 i 0 (kF2 i (kF1 i z)))) := (itr_G (kUp_G i 1) _ _).le (by rw [g3.1, g2.1, g1.1]; exact n1)
  have g5 : zGr 1024 (kF3 i 1 (kF3 i 0 (kF2 i (kF1 i z)))) (kF4 i 1 (kF3 i 1 (kF3 i 0 (kF2 i (kF1 i z))))) := (itr_G (kDe_G i 1) _ _).le (by rw [g4.1, g3.1, g2.1, g1.1]; exact n1)
  have g6 : zGr 1024 (kF4 i 1 (kF3 i 1 (kF3 i 0 (kF2 i (kF1 i z))))) (kFl i z) := (itr_G (kDe_G i 0) _ _).le (by rw [g5.1, g4.1, g3.1, g2.1, g1.1]; exact n0)
  exact g1.tr (g2.tr (g3.tr (g4.tr (g5.tr g6))))
/-- the room that a flush takes -/
def fKc (z : cZ) (si : Int32) : Nat := if sOK si = true ∧ zW z < 4096 ∧ (kCla si.toNatClampNeg z || kDan si.toNatClampNeg z) = false then zC (kFl si.toNatClampNeg z) - zC z else 0
theorem sOK_nI {i : Nat} (hi : i < 3) : sOK (nI i) = true := by
  rcases (show i = 0 ∨ i = 1 ∨ i = 2 by omega) with rfl | rfl | rfl <;> decide
theorem fKc_of {z : cZ} {si : Int32} {i : Nat} (e : si = nI i) (hi : i < 3) (h1 : zW z < 4096) (h2 : (kCla i z || kDan i z) = false) : fKc z si = zC (kFl i z) - zC z := by
  have e2 : si.toNatClampNeg = i := by rw [e]; exact nI_clamp (by omega)
  unfold fKc
  rw [e2, if_pos ⟨by rw [e]; exact sOK_nI hi, h1, h2⟩]
theorem fKc_le {z : cZ} {si : Int32} (hC : zC z ≤ 32768) (hn : ∀ u, u < 8 → zN z u ≤ 1024) : zC z + fKc z si ≤ 32768 := by
  unfold fKc
  split
  · rename_i q
    obtain ⟨i, hi, ei⟩ := sOK_i q.1
    have e2 : si.toNatClampNeg = i := by rw [ei]; exact nI_clamp (by omega)
    have g := kFl_G (z := z) hi hn
    rw [e2]
    have h1 := q.2.1
    have h2 := g.2.1
    have h3 := g.2.2.1
    omega
  · omega
theorem fKc_O {z z1 : cZ} {si k : Int32} {v : Int64} (hn : ∀ u, u < 8 → zN z u ≤ 1024) (h : cO_flush z si k v z1) : zC z + fKc z si ≤ zC z1 := by
  rcases h with ⟨-, r, -, i, a1, a2, a3, a4, rfl⟩ | ⟨hx, rfl⟩
  · rw [fKc_of a1.2 a1.1 a2 a3]
    have h2 := (kFl_G (z := z) a1.1 hn).2.1
    omega
  · unfold fKc
    rw [if_neg]
    · exact Nat.le_refl _
    · intro q
      rcases hx with ⟨-, hx⟩ | ⟨-, i, a1, hx⟩
      · rw [hx] at q
        exact absurd q.1 (by decide)
      · have e2 : si.toNatClampNeg = i := by rw [a1.2]; exact nI_clamp (by have := a1.1; omega)
        rw [e2] at q
        rcases hx with hx | hx
        · have := q.2.1
          omega
        · rw [hx] at q
          exact absurd q.2.2 (by decide)
