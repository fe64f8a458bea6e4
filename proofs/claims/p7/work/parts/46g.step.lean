theorem itr_zC {F : Nat → cZ → cZ} (h : ∀ j z, zC (F j z) = zC z) (n : Nat) (z : cZ) : zC (itr F n z) = zC z := by
  induction n with
  | zero => rfl
  | succ n ih => exact (h n _).trans ih
theorem kLd_zC (i k : Nat) (t : Int32) (j : Nat) (z : cZ) : zC (kLd i k t j z) = zC z := by
  unfold kLd
  split <;> rfl
theorem kCl_zC (i : Nat) (t : Int32) (j : Nat) (z : cZ) : zC (kCl i t j z) = zC z := by
  unfold kCl
  split <;> rfl
theorem kRmB_zC (i b : Nat) (z : cZ) : zC (kRmB i b z) = zC z := (itr_zC (kCl_zC i (nI b)) _ _).trans (itr_zC (kLd_zC i 0 (nI b)) _ _)
theorem kRb_zC (i : Nat) (t : Int32) (j : Nat) (z : cZ) : zC (kRb i t j z) = zC z := by
  unfold kRb
  split
  · exact kRmB_zC i j z
  · rfl
theorem kRmA_zC (i a : Nat) (z : cZ) : zC (kRmA i a z) = zC z := (itr_zC (kRb_zC i (nI a)) _ _).trans (itr_zC (kLd_zC i 1 (nI a)) _ _)
theorem kFi_zC (i k : Nat) (ky : Int32) (z : cZ) : zC (kFi i k ky z) = zC z := by
  unfold kFi
  split <;> rfl
theorem zc_makeAuthor {z z1 : cZ} {si nm k : Int32} {v : Int64} (h : cO_makeAuthor z si nm k v z1) : zC z1 = zC z := by
  rcases h with ⟨-, ⟨r, -, i, a1, a2, (⟨a3, a4, rfl⟩ | ⟨a3, a4, rfl⟩)⟩⟩ | ⟨-, rfl⟩
  · rfl
  · rfl
  · rfl
theorem zc_makeBook {z z1 : cZ} {si nm au k : Int32} {v : Int64} (h : cO_makeBook z si nm au k v z1) : zC z1 = zC z := by
  rcases h with ⟨-, ⟨r, -, i, a1, a2, a6, (⟨a3, a4, rfl⟩ | ⟨a3, a4, rfl⟩)⟩⟩ | ⟨-, rfl⟩
  · rfl
  · rfl
  · rfl
theorem zc_find {z z1 : cZ} {si kd ky k : Int32} {v : Int64} (h : cO_find z si kd ky k v z1) : zC z1 = zC z := by
  rcases h with ⟨-, ⟨r, -, i, k, a1, a2, a3, rfl⟩⟩ | ⟨-, rfl⟩
  · exact kFi_zC _ _ _ _
  · rfl
theorem zc_books {z z1 : cZ} {si au k : Int32} {v : Int64} (h : cO_books z si au k v z1) : zC z1 = zC z := by
  rcases h with ⟨-, ⟨r, -, i, a1, a2, a3, rfl⟩⟩ | ⟨-, rfl⟩
  · exact itr_zC (kLd_zC i 1 au) _ _
  · rfl
theorem zc_setName {z z1 : cZ} {si kd ky nm k : Int32} (h : cO_setName z si kd ky nm k z1) : zC z1 = zC z := by
  rcases h with ⟨-, ⟨i, k, j, a1, a2, a3, a4, a6, rfl⟩⟩ | ⟨-, rfl⟩
  · rfl
  · rfl
theorem zc_setReference {z z1 : cZ} {si kd ky rf k : Int32} (h : cO_setReference z si kd ky rf k z1) : zC z1 = zC z := by
  rcases h with ⟨-, ⟨i, k, j, a1, a2, a3, a4, a6, a7, rfl⟩⟩ | ⟨-, rfl⟩
  · rfl
  · rfl
theorem zc_remove {z z1 : cZ} {si kd ky k : Int32} {v : Int64} (h : cO_remove z si kd ky k v z1) : zC z1 = zC z := by
  rcases h with ⟨-, ⟨r, -, i, k, j, a1, a2, a3, a4, (⟨a6, a7, rfl⟩ | ⟨a6, a7, rfl⟩)⟩⟩ | ⟨-, rfl⟩
  · exact kRmA_zC _ _ _
  · exact kRmB_zC _ _ _
  · rfl
theorem zc_name {z z1 : cZ} {si kd ky k : Int32} {v : Int64} (h : cO_name z si kd ky k v z1) : zC z1 = zC z := by
  rcases h with ⟨-, ⟨r, -, i, k, j, a1, a2, a3, a4, a6, rfl⟩⟩ | ⟨-, rfl⟩
  · rfl
  · rfl
theorem zc_reference {z z1 : cZ} {si kd ky k : Int32} {v : Int64} (h : cO_reference z si kd ky k v z1) : zC z1 = zC z := by
  rcases h with ⟨-, ⟨r, -, i, k, j, a1, a2, a3, a4, a6, rfl⟩⟩ | ⟨-, rfl⟩
  · rfl
  · rfl
theorem zc_known {z z1 : cZ} {si k : Int32} {v : Int64} (h : cO_known z si k v z1) : zC z1 = zC z := by
  rcases h with ⟨-, ⟨r, -, i, a1, a2, rfl⟩⟩ | ⟨-, rfl⟩
  · rfl
  · rfl
theorem zc_dirty {z z1 : cZ} {si k : Int32} {v : Int64} (h : cO_dirty z si k v z1) : zC z1 = zC z := by
  rcases h with ⟨-, ⟨r, -, i, a1, a2, rfl⟩⟩ | ⟨-, rfl⟩
  · rfl
  · rfl
theorem zc_clear {z z1 : cZ} {si k : Int32} {v : Int64} (h : cO_clear z si k v z1) : zC z1 = zC z := by
  rcases h with ⟨-, ⟨r, -, i, a1, a3, rfl⟩⟩ | ⟨-, rfl⟩
  · exact (itr_zC (F := kFg i 1) (fun _ _ => rfl) _ _).trans (itr_zC (F := kFg i 0) (fun _ _ => rfl) _ _)
  · rfl
theorem zc_rows {z z1 : cZ} {kd k : Int32} {v : Int64} (h : cO_rows z kd k v z1) : zC z1 = zC z := by
  rcases h with ⟨-, ⟨r, -, i, a1, a2, rfl⟩⟩ | ⟨-, rfl⟩
  · rfl
  · rfl
theorem zc_rowName {z z1 : cZ} {kd ky k : Int32} {v : Int64} (h : cO_rowName z kd ky k v z1) : zC z1 = zC z := by
  rcases h with ⟨-, ⟨r, -, k, a1, a2, a3, rfl⟩⟩ | ⟨-, rfl⟩
  · rfl
  · rfl
theorem zc_rowReference {z z1 : cZ} {kd ky k : Int32} {v : Int64} (h : cO_rowReference z kd ky k v z1) : zC z1 = zC z := by
  rcases h with ⟨-, ⟨r, -, k, a1, a2, a3, rfl⟩⟩ | ⟨-, rfl⟩
  · rfl
  · rfl
theorem zc_rowVersion {z z1 : cZ} {kd ky k : Int32} {v : Int64} (h : cO_rowVersion z kd ky k v z1) : zC z1 = zC z := by
  rcases h with ⟨-, ⟨r, -, k, a1, a2, a3, rfl⟩⟩ | ⟨-, rfl⟩
  · rfl
  · rfl
theorem zc_write {z z1 : cZ} {nu k : Int32} {v : Int64} (h : cO_write z nu k v z1) : zC z1 = zC z := by
  rcases h with ⟨-, ⟨r, -, j, a1, a2, a3, rfl⟩⟩ | ⟨-, rfl⟩
  · rfl
  · rfl
theorem zc_written {z z1 : cZ} {nu k : Int32} {v : Int64} (h : cO_written z nu k v z1) : zC z1 = zC z := by
  rcases h with ⟨-, ⟨r, -, j, a1, a2, a3, rfl⟩⟩ | ⟨-, rfl⟩
  · rfl
  · rfl
/-- after n calls -/
def RI (n : Nat) (z : cZ) (w : mW) : Prop := cEq z ∧ mInv w ∧ (∀ u, u < 8 → zN z u ≤ n) ∧ (∀ k, k < 2 → rdK w k ≤ n) ∧ rdN w ≤ 6144 * n ∧ RZ z w ∧ PT (4 * n) z
theorem RI.st {n : Nat} {z z1 : cZ} {w w2 : mW} (hR : RI n z w) (hz : zSt z z1) (hw : wSt w w2) (h0 : RZ z1 w2) (h1 : PT (4 * n + 4) z1) : RI (n + 1) z1 w2 := by
  obtain ⟨h1, h2, h3, h4, h5, h6⟩ := hR
  refine ⟨hz.1, hw.1, fun u hu => ?_, fun k hk => ?_, ?_, h0, by rw [show 4 * (n + 1) = 4 * n + 4 from by omega]; assumption⟩
  · have a := hz.2 u hu
    have b := h3 u hu
    omega
  · have a := hw.2.1 k hk
    have b := h4 k hk
    omega
  · have a := hw.2.2
    omega
theorem RI.n8 {n : Nat} {z : cZ} {w : mW} (hR : RI n z w) (hn : n < 512) : ∀ u, u < 8 → zN z u ≤ 1024 := fun u hu => by
  have := hR.2.2.1 u hu
  omega
theorem S_ok {si : Int32} {i : Nat} (h : aS si i) : sOK si = true ∧ si.toNatClampNeg = i := ⟨by rw [h.2]; exact sOK_nI h.1, by rw [h.2]; exact nI_clamp (by have := h.1; omega)⟩
theorem K_ok {kd : Int32} {k : Nat} (h : aK kd k) : kOK kd = true ∧ kd.toNatClampNeg = k := by
  refine ⟨?_, by rw [h.2]; exact nI_clamp (by have := h.1; omega)⟩
  have h1 := h.1
  rw [h.2]
  rcases (show k = 0 ∨ k = 1 by omega) with rfl | rfl <;> decide
theorem aS_u {si : Int32} {i i2 : Nat} (h : aS si i) (h2 : aS si i2) : i2 = i := nI_inj (by have := h2.1; omega) (by have := h.1; omega) (h2.2.symm.trans h.2)
theorem aK_u {kd : Int32} {k k2 : Nat} (h : aK kd k) (h2 : aK kd k2) : k2 = k := nI_inj (by have := h2.1; omega) (by have := h.1; omega) (h2.2.symm.trans h.2)
theorem RZ.lv {z : cZ} {w : mW} (h : RZ z w) (hq : cEq z) {i k j : Nat} {ky : Int32} (hi : i < 3) (hk : k < 2) (hj : j < zN z (sL i k) ∧ ky = nI j) (hl : fLive (zE z (sL i k) j) = true) : mKn w i k ky = true := by
  have h1 := hj.1
  rw [hq i k hi hk] at h1
  rw [hj.2, h.kn hi hk h1]
  exact hl
theorem RZ.jj {z : cZ} {w : mW} (h : RZ z w) (hq : cEq z) {i k j : Nat} {ky : Int32} (hi : i < 3) (hk : k < 2) (hj : j < zN z (sL i k) ∧ ky = nI j) : j < zN z k := by
  have h1 := hj.1
  rw [hq i k hi hk] at h1
  exact h1
theorem itm_H {F : Nat → mW → mW} (h : ∀ j w, rdH (F j w) = rdH w) (n : Nat) (w : mW) : rdH (itm F n w) = rdH w := by
  induction n with
  | zero => rfl
  | succ n ih => exact (h n _).trans ih
theorem mLd_H (i k : Nat) (t : Int32) (j : Nat) (w : mW) : rdH (mLd i k t j w) = rdH w := by
  unfold mLd
  split <;> rfl
theorem mRmB_H (i b : Nat) (w : mW) : rdH (mRmB i b w) = rdH w := (itm_H (F := mCl i (nI b)) (fun _ _ => rfl) _ _).trans (itm_H (mLd_H i 0 (nI b)) _ _)
theorem mRb_H (i : Nat) (t : Int32) (j : Nat) (w : mW) : rdH (mRb i t j w) = rdH w := by
  unfold mRb
  split
  · exact mRmB_H i j w
  · rfl
theorem mRmA_H (i a : Nat) (w : mW) : rdH (mRmA i a w) = rdH w := (itm_H (mRb_H i (nI a)) _ _).trans (itm_H (mLd_H i 1 (nI a)) _ _)
theorem mCr_H (i : Nat) (w : mW) : rdH (mCr i w) = rdH w := (itm_H (F := mFg i 1) (fun _ _ => rfl) _ _).trans (itm_H (F := mFg i 0) (fun _ _ => rfl) _ _)
theorem st_makeAuthor {n : Nat} {z z1 : cZ} {w w2 : mW} {si nm k r : Int32} {v : Int64} (hR : RI n z w) (hn : n < 512) (hc : cO_makeAuthor z si nm k v z1) (hm : mO_makeAuthor w si nm r w2) : RI (n + 1) z1 w2 ∧ rdH w2 = k ∧ (k = 0 → v = r.toInt64) := by
  obtain ⟨hq, hI, -, -, -, hZ, hP⟩ := id hR
  have hn8 := hR.n8 hn
  have hz := z_makeAuthor hc hq
  have hw := w_makeAuthor hm hI (by have h9 := hR.2.2.2.1 0 (by decide); omega)
  rcases hc with ⟨rfl, r9, rfl, i, a1, a2, (⟨a3, rfl, rfl⟩ | ⟨a3, -, -⟩)⟩ | ⟨hx, rfl⟩
  · have h00 : aMA si nm = 0 := by simp [aMA, (S_ok a1).1, a2]
    rcases hm with ⟨-, i2, b1, b2, rfl, rfl⟩ | ⟨hne, -⟩
    · obtain rfl := aS_u a1 b1
      exact ⟨hR.st hz hw ((hZ.lk mLk.H).mk hq a1.1 (by decide) (by omega) _ _) (hP.mk hq a1.1 (by decide) _ _), rfl, fun _ => by rw [hZ.1 0 (by decide)]⟩
    · exact absurd h00 hne
  · have := hR.2.2.1 0 (by decide)
    omega
  · have hC : aMA si nm = k := by
      rcases hx with ⟨rfl, hx⟩ | ⟨rfl, hx⟩
      · simp [aMA, hx]
      · simp [aMA, hx.1, hx.2]
    have hk9 : k ≠ 0 := by
      rcases hx with ⟨rfl, -⟩ | ⟨rfl, -⟩ <;> decide
    rcases hm with ⟨h0, -⟩ | ⟨-, rfl⟩
    · exact absurd (hC.symm.trans h0) hk9
    · exact ⟨hR.st hz hw (hZ.lk mLk.H) (hP.le (by omega)), hC, fun q => absurd q hk9⟩
theorem st_makeBook {n : Nat} {z z1 : cZ} {w w2 : mW} {si nm au k r : Int32} {v : Int64} (hR : RI n z w) (hn : n < 512) (hc : cO_makeBook z si nm au k v z1) (hm : mO_makeBook w si nm au r w2) : RI (n + 1) z1 w2 ∧ rdH w2 = k ∧ (k = 0 → v = r.toInt64) := by
  obtain ⟨hq, hI, -, -, -, hZ, hP⟩ := id hR
  have hn8 := hR.n8 hn
  have hz := z_makeBook hc hq
  have hw := w_makeBook hm hI (by have h9 := hR.2.2.2.1 1 (by decide); omega)
  rcases hc with ⟨rfl, r9, rfl, i, a1, a2, a6, (⟨a3, rfl, rfl⟩ | ⟨a3, -, -⟩)⟩ | ⟨hx, rfl⟩
  · have h00 : aMB w si nm au = 0 := by simp [aMB, (S_ok a1).1, (S_ok a1).2, a2, ← live_eq hZ hq a1.1 (k := 0) (by decide) au, a6]
    rcases hm with ⟨-, i2, b1, b2, b3, rfl, rfl⟩ | ⟨hne, -⟩
    · obtain rfl := aS_u a1 b1
      exact ⟨hR.st hz hw ((hZ.lk mLk.H).mk hq a1.1 (by decide) (by omega) _ _) (hP.mk hq a1.1 (by decide) _ _), rfl, fun _ => by rw [hZ.1 1 (by decide)]⟩
    · exact absurd h00 hne
  · have := hR.2.2.1 1 (by decide)
    omega
  · have hC : aMB w si nm au = k := by
      rcases hx with ⟨rfl, hx⟩ | ⟨rfl, hx⟩ | ⟨rfl, hx⟩
      · simp [aMB, hx]
      · simp [aMB, hx.1, hx.2]
      · obtain ⟨hx1, i, a1, hx2⟩ := hx
        simp [aMB, (S_ok a1).1, (S_ok a1).2, hx1, ← live_eq hZ hq a1.1 (k := 0) (by decide) au, hx2]
    have hk9 : k ≠ 0 := by
      rcases hx with ⟨rfl, -⟩ | ⟨rfl, -⟩ | ⟨rfl, -⟩ <;> decide
    rcases hm with ⟨h0, -⟩ | ⟨-, rfl⟩
    · exact absurd (hC.symm.trans h0) hk9
    · exact ⟨hR.st hz hw (hZ.lk mLk.H) (hP.le (by omega)), hC, fun q => absurd q hk9⟩
theorem st_find {n : Nat} {z z1 : cZ} {w w2 : mW} {si kd ky k r : Int32} {v : Int64} (hR : RI n z w) (hn : n < 512) (hc : cO_find z si kd ky k v z1) (hm : mO_find w si kd ky r w2) : RI (n + 1) z1 w2 ∧ rdH w2 = k ∧ (k = 0 → v = r.toInt64) := by
  obtain ⟨hq, hI, -, -, -, hZ, hP⟩ := id hR
  have hn8 := hR.n8 hn
  have hz := z_find hc hq
  have hw := w_find hm hI
  rcases hc with ⟨rfl, r9, rfl, i, k, a1, a2, a3, rfl⟩ | ⟨hx, rfl⟩
  · have h00 : aFi si kd = 0 := by simp [aFi, (S_ok a1).1, (K_ok a2).1]
    rcases hm with ⟨-, i2, k2, b1, b2, b3, rfl⟩ | ⟨hne, -⟩
    · obtain rfl := aS_u a1 b1
      obtain rfl := aK_u a2 b2
      have h9 := (hZ.lk (mLk.H (v := 0))).fi hq a1.1 a2.1 ky
      refine ⟨hR.st hz hw h9 ((hP.fi hq hn8 a1.1 a2.1 ky).le (by omega)), ?_, fun _ => ?_⟩
      · unfold mFi
        split <;> rfl
      · rw [a3, b3, live_eq h9 (cEq_N (kFi_N _ _ _ _) hq) a1.1 a2.1]
    · exact absurd h00 hne
  · have hC : aFi si kd = k := by
      rcases hx with ⟨rfl, hx⟩ | ⟨rfl, hx⟩
      · simp [aFi, hx]
      · simp [aFi, hx.1, hx.2]
    have hk9 : k ≠ 0 := by
      rcases hx with ⟨rfl, -⟩ | ⟨rfl, -⟩ <;> decide
    rcases hm with ⟨h0, -⟩ | ⟨-, rfl⟩
    · exact absurd (hC.symm.trans h0) hk9
    · exact ⟨hR.st hz hw (hZ.lk mLk.H) (hP.le (by omega)), hC, fun q => absurd q hk9⟩
theorem st_books {n : Nat} {z z1 : cZ} {w w2 : mW} {si au k r : Int32} {v : Int64} (hR : RI n z w) (hn : n < 512) (hc : cO_books z si au k v z1) (hm : mO_books w si au r w2) : RI (n + 1) z1 w2 ∧ rdH w2 = k ∧ (k = 0 → v = r.toInt64) := by
  obtain ⟨hq, hI, -, -, -, hZ, hP⟩ := id hR
  have hn8 := hR.n8 hn
  have hz := z_books hc hq
  have hw := w_books hm hI
  rcases hc with ⟨rfl, r9, rfl, i, a1, a2, a3, rfl⟩ | ⟨hx, rfl⟩
  · have h00 : aBk w si au = 0 := by simp [aBk, (S_ok a1).1, (S_ok a1).2, ← live_eq hZ hq a1.1 (k := 0) (by decide) au, a2]
    rcases hm with ⟨-, i2, b1, b2, b3, rfl⟩ | ⟨hne, -⟩
    · obtain rfl := aS_u a1 b1
      have h9 := (hZ.lk (mLk.H (v := 0))).lds (k := 1) a1.1 (by decide) au
      have hN : zN (itr (kLd i2 1 au) (zN z 1) z) = zN z := itr_N (kLd_N i2 1 au) _ _
      refine ⟨hR.st hz hw h9 ((Q_it (Q := PT (4 * n)) (N0 := zN z) (kLd_N i2 1 au) (fun j z2 hj hz2 h2 => h2.lod a1.1 (by decide) (by rw [hz2]; exact hj) _) rfl hP).le (by omega)), ?_, fun _ => ?_⟩
      · exact (itm_H (mLd_H i2 1 au) _ _).trans rfl
      · rw [a3, b3, hq i2 1 a1.1 (by decide), ← hZ.1 1 (by decide)]
        refine congrArg (fun m => (nI m).toInt64) (cnt_congr (fun j hj => ?_))
        have h8 : RZ (itr (kLd i2 1 au) (zN z 1) z) (itm (mLd i2 1 au) (rdK w 1) (mH w 0)) := h9
        rw [← hZ.1 1 (by decide)] at h8
        exact (h8.rf a1.1 (by decide) (by rw [hN]; exact hj) au).symm
    · exact absurd h00 hne
  · have hC : aBk w si au = k := by
      rcases hx with ⟨rfl, hx⟩ | ⟨rfl, hx⟩
      · simp [aBk, hx]
      · obtain ⟨i, a1, hx2⟩ := hx
        simp [aBk, (S_ok a1).1, (S_ok a1).2, ← live_eq hZ hq a1.1 (k := 0) (by decide) au, hx2]
    have hk9 : k ≠ 0 := by
      rcases hx with ⟨rfl, -⟩ | ⟨rfl, -⟩ <;> decide
    rcases hm with ⟨h0, -⟩ | ⟨-, rfl⟩
    · exact absurd (hC.symm.trans h0) hk9
    · exact ⟨hR.st hz hw (hZ.lk mLk.H) (hP.le (by omega)), hC, fun q => absurd q hk9⟩
theorem st_name {n : Nat} {z z1 : cZ} {w w2 : mW} {si kd ky k r : Int32} {v : Int64} (hR : RI n z w) (hn : n < 512) (hc : cO_name z si kd ky k v z1) (hm : mO_name w si kd ky r w2) : RI (n + 1) z1 w2 ∧ rdH w2 = k ∧ (k = 0 → v = r.toInt64) := by
  obtain ⟨hq, hI, -, -, -, hZ, hP⟩ := id hR
  have hn8 := hR.n8 hn
  have hz := z_name hc hq
  have hw := w_name hm hI
  rcases hc with ⟨rfl, r9, rfl, i, k, j, a1, a2, a3, a4, a6, rfl⟩ | ⟨hx, rfl⟩
  · have h00 : aA w si kd ky true = 0 := by simp [aA, (S_ok a1).1, (S_ok a1).2, (K_ok a2).1, (K_ok a2).2, hZ.lv hq a1.1 a2.1 a3 a4]
    rcases hm with ⟨-, i2, k2, j2, b1, b2, b3, b4, b5, rfl⟩ | ⟨hne, -⟩
    · obtain rfl := aS_u a1 b1
      obtain rfl := aK_u a2 b2
      have hj := hZ.jj hq a1.1 a2.1 a3
      have hbj := hn8 k2 (by have := a2.1; omega)
      have hjk := b3.1
      have hkk := hZ.1 k2 a2.1
      obtain rfl := nI_inj (by omega) (by omega) (b3.2.symm.trans a3.2)
      exact ⟨hR.st hz hw (hZ.lk mLk.H) (hP.le (by omega)), rfl, fun _ => by rw [a6, b5, (hZ.nm a1.1 a2.1 hj a4).1]⟩
    · exact absurd h00 hne
  · have hC : aA w si kd ky true = k := by
      rcases hx with ⟨rfl, hx⟩ | ⟨rfl, hx⟩ | ⟨rfl, hx⟩
      · simp [aA, hx]
      · simp [aA, hx.1, hx.2]
      · obtain ⟨i, k9, a1, a2, hx2⟩ := hx
        simp [aA, (S_ok a1).1, (S_ok a1).2, (K_ok a2).1, (K_ok a2).2, ← live_eq hZ hq a1.1 a2.1 ky, hx2]
    have hk9 : k ≠ 0 := by
      rcases hx with ⟨rfl, -⟩ | ⟨rfl, -⟩ | ⟨rfl, -⟩ <;> decide
    rcases hm with ⟨h0, -⟩ | ⟨-, rfl⟩
    · exact absurd (hC.symm.trans h0) hk9
    · exact ⟨hR.st hz hw (hZ.lk mLk.H) (hP.le (by omega)), hC, fun q => absurd q hk9⟩
theorem st_reference {n : Nat} {z z1 : cZ} {w w2 : mW} {si kd ky k r : Int32} {v : Int64} (hR : RI n z w) (hn : n < 512) (hc : cO_reference z si kd ky k v z1) (hm : mO_reference w si kd ky r w2) : RI (n + 1) z1 w2 ∧ rdH w2 = k ∧ (k = 0 → v = r.toInt64) := by
  obtain ⟨hq, hI, -, -, -, hZ, hP⟩ := id hR
  have hn8 := hR.n8 hn
  have hz := z_reference hc hq
  have hw := w_reference hm hI
  rcases hc with ⟨rfl, r9, rfl, i, k, j, a1, a2, a3, a4, a6, rfl⟩ | ⟨hx, rfl⟩
  · have h00 : aA w si kd ky true = 0 := by simp [aA, (S_ok a1).1, (S_ok a1).2, (K_ok a2).1, (K_ok a2).2, hZ.lv hq a1.1 a2.1 a3 a4]
    rcases hm with ⟨-, i2, k2, j2, b1, b2, b3, b4, b5, rfl⟩ | ⟨hne, -⟩
    · obtain rfl := aS_u a1 b1
      obtain rfl := aK_u a2 b2
      have hj := hZ.jj hq a1.1 a2.1 a3
      have hbj := hn8 k2 (by have := a2.1; omega)
      have hjk := b3.1
      have hkk := hZ.1 k2 a2.1
      obtain rfl := nI_inj (by omega) (by omega) (b3.2.symm.trans a3.2)
      exact ⟨hR.st hz hw (hZ.lk mLk.H) (hP.le (by omega)), rfl, fun _ => by rw [a6, b5, (hZ.nm a1.1 a2.1 hj a4).2]⟩
    · exact absurd h00 hne
  · have hC : aA w si kd ky true = k := by
      rcases hx with ⟨rfl, hx⟩ | ⟨rfl, hx⟩ | ⟨rfl, hx⟩
      · simp [aA, hx]
      · simp [aA, hx.1, hx.2]
      · obtain ⟨i, k9, a1, a2, hx2⟩ := hx
        simp [aA, (S_ok a1).1, (S_ok a1).2, (K_ok a2).1, (K_ok a2).2, ← live_eq hZ hq a1.1 a2.1 ky, hx2]
    have hk9 : k ≠ 0 := by
      rcases hx with ⟨rfl, -⟩ | ⟨rfl, -⟩ | ⟨rfl, -⟩ <;> decide
    rcases hm with ⟨h0, -⟩ | ⟨-, rfl⟩
    · exact absurd (hC.symm.trans h0) hk9
    · exact ⟨hR.st hz hw (hZ.lk mLk.H) (hP.le (by omega)), hC, fun q => absurd q hk9⟩
theorem st_setName {n : Nat} {z z1 : cZ} {w w2 : mW} {si kd ky nm k : Int32} (hR : RI n z w) (hn : n < 512) (hc : cO_setName z si kd ky nm k z1) (hm : mO_setName w si kd ky nm w2) : RI (n + 1) z1 w2 ∧ rdH w2 = k := by
  obtain ⟨hq, hI, -, -, -, hZ, hP⟩ := id hR
  have hn8 := hR.n8 hn
  have hz := z_setName hc hq
  have hw := w_setName hm hI
  rcases hc with ⟨rfl, i, k, j, a1, a2, a3, a4, a6, rfl⟩ | ⟨hx, rfl⟩
  · have h00 : aA w si kd ky (nOK nm) = 0 := by simp [aA, (S_ok a1).1, (S_ok a1).2, (K_ok a2).1, (K_ok a2).2, hZ.lv hq a1.1 a2.1 a3 a4, a6]
    rcases hm with ⟨-, i2, k2, j2, b1, b2, b3, b4, rfl⟩ | ⟨hne, -⟩
    · obtain rfl := aS_u a1 b1
      obtain rfl := aK_u a2 b2
      have hj := hZ.jj hq a1.1 a2.1 a3
      have hbj := hn8 k2 (by have := a2.1; omega)
      have hjk := b3.1
      have hkk := hZ.1 k2 a2.1
      obtain rfl := nI_inj (by omega) (by omega) (b3.2.symm.trans a3.2)
      exact ⟨hR.st hz hw ((hZ.lk (mLk.H (v := 0))).sn a1.1 a2.1 hj nm) (PT.le (hP.set a1.1 a2.1 hj) (by omega)), rfl⟩
    · exact absurd h00 hne
  · have hC : aA w si kd ky (nOK nm) = k := by
      rcases hx with ⟨rfl, hx⟩ | ⟨rfl, hx⟩ | ⟨rfl, hx⟩
      · simp [aA, hx]
      · obtain ⟨hx1, hx2⟩ := hx
        rcases hx2 with hx2 | hx2 <;> simp [aA, hx1, hx2]
      · obtain ⟨i, k9, a1, a2, hx1, hx2⟩ := hx
        simp [aA, (S_ok a1).1, (S_ok a1).2, (K_ok a2).1, (K_ok a2).2, hx1, ← live_eq hZ hq a1.1 a2.1 ky, hx2]
    have hk9 : k ≠ 0 := by
      rcases hx with ⟨rfl, -⟩ | ⟨rfl, -⟩ | ⟨rfl, -⟩ <;> decide
    rcases hm with ⟨h0, -⟩ | ⟨-, rfl⟩
    · exact absurd (hC.symm.trans h0) hk9
    · exact ⟨hR.st hz hw (hZ.lk mLk.H) (hP.le (by omega)), hC⟩
theorem kd_1 {kd : Int32} {k : Nat} (h : aK kd k) : (kd = 1 ↔ ¬ kd = 0) := by
  have h1 := h.1
  rw [h.2]
  rcases (show k = 0 ∨ k = 1 by omega) with rfl | rfl <;> decide
theorem aSR_1 {w : mW} {si kd ky rf : Int32} (h : aA w si kd ky (!decide (rf = -1) || decide (kd = 0)) ≠ 0) : aSR w si kd ky rf = aA w si kd ky (!decide (rf = -1) || decide (kd = 0)) := if_neg h
theorem aSR_0 {w : mW} {si kd ky rf : Int32} (h : aA w si kd ky (!decide (rf = -1) || decide (kd = 0)) = 0) : aSR w si kd ky rf = if (decide (rf = -1) || mKn w si.toNatClampNeg (1 - kd.toNatClampNeg) rf) = true then 0 else 3 := if_pos h
theorem bS_t {kd rf : Int32} {k : Nat} (h : aK kd k) (hn : ¬ (kd = 1 ∧ rf = -1)) : (!decide (rf = -1) || decide (kd = 0)) = true := by
  by_cases h1 : rf = -1
  · rw [decide_eq_true (show kd = 0 from Classical.byContradiction (fun q => hn ⟨(kd_1 h).mpr q, h1⟩)), Bool.or_true]
  · rw [decide_eq_false h1]
    rfl
theorem st_setReference {n : Nat} {z z1 : cZ} {w w2 : mW} {si kd ky rf k : Int32} (hR : RI n z w) (hn : n < 512) (hc : cO_setReference z si kd ky rf k z1) (hm : mO_setReference w si kd ky rf w2) : RI (n + 1) z1 w2 ∧ rdH w2 = k := by
  obtain ⟨hq, hI, -, -, -, hZ, hP⟩ := id hR
  have hn8 := hR.n8 hn
  have hz := z_setReference hc hq
  have hw := w_setReference hm hI
  rcases hc with ⟨rfl, i, k, j, a1, a2, a3, a4, a6, a7, rfl⟩ | ⟨hx, rfl⟩
  · have h00 : aSR w si kd ky rf = 0 := by
      have hb := bS_t a2 a6
      rw [aSR_0 (by simp [aA, (S_ok a1).1, (S_ok a1).2, (K_ok a2).1, (K_ok a2).2, hZ.lv hq a1.1 a2.1 a3 a4, hb]), (S_ok a1).2, (K_ok a2).2]
      have hk := a2.1
      rcases a7 with a7 | a7
      · simp [a7]
      · rw [← live_eq hZ hq a1.1 (k := 1 - k) (by omega) rf, a7]
        simp
    rcases hm with ⟨-, i2, k2, j2, b1, b2, b3, b4, b5, rfl⟩ | ⟨hne, -⟩
    · obtain rfl := aS_u a1 b1
      obtain rfl := aK_u a2 b2
      have hj := hZ.jj hq a1.1 a2.1 a3
      have hbj := hn8 k2 (by have := a2.1; omega)
      have hjk := b3.1
      have hkk := hZ.1 k2 a2.1
      obtain rfl := nI_inj (by omega) (by omega) (b3.2.symm.trans a3.2)
      exact ⟨hR.st hz hw (((hZ.lk (mLk.H (v := 0))).lk (mLk.H (v := 0))).sr a1.1 a2.1 hj rf) (PT.le (hP.set a1.1 a2.1 hj) (by omega)), rfl⟩
    · exact absurd h00 hne
  · have hC : aSR w si kd ky rf = k := by
      rcases hx with ⟨rfl, hx⟩ | ⟨rfl, hx⟩ | ⟨rfl, hx⟩
      · have h9 : aA w si kd ky (!decide (rf = -1) || decide (kd = 0)) = 1 := by simp [aA, hx]
        rw [aSR_1 (by rw [h9]; decide), h9]
      · obtain ⟨hx1, hx2⟩ := hx
        have h9 : aA w si kd ky (!decide (rf = -1) || decide (kd = 0)) = 2 := by
          rcases hx2 with hx2 | ⟨hx2, hx3⟩
          · simp [aA, hx1, hx2]
          · simp [aA, hx1, hx2, hx3]
        rw [aSR_1 (by rw [h9]; decide), h9]
      · obtain ⟨i, k9, a1, a2, hx1, hx2⟩ := hx
        have hb := bS_t a2 hx1
        have hk := a2.1
        rcases hx2 with hx2 | ⟨hx2, hx3, hx4⟩
        · have h9 : aA w si kd ky (!decide (rf = -1) || decide (kd = 0)) = 3 := by simp [aA, (S_ok a1).1, (S_ok a1).2, (K_ok a2).1, (K_ok a2).2, hb, ← live_eq hZ hq a1.1 a2.1 ky, hx2]
          rw [aSR_1 (by rw [h9]; decide), h9]
        · have h9 : aA w si kd ky (!decide (rf = -1) || decide (kd = 0)) = 0 := by simp [aA, (S_ok a1).1, (S_ok a1).2, (K_ok a2).1, (K_ok a2).2, hb, ← live_eq hZ hq a1.1 a2.1 ky, hx2]
          rw [aSR_0 h9, (S_ok a1).2, (K_ok a2).2, ← live_eq hZ hq a1.1 (k := 1 - k9) (by omega) rf, hx4]
          simp [hx3]
    have hk9 : k ≠ 0 := by
      rcases hx with ⟨rfl, -⟩ | ⟨rfl, -⟩ | ⟨rfl, -⟩ <;> decide
    rcases hm with ⟨h0, -⟩ | ⟨-, rfl⟩
    · exact absurd (hC.symm.trans h0) hk9
    · exact ⟨hR.st hz hw (hZ.lk mLk.H) (hP.le (by omega)), hC⟩
theorem st_remove {n : Nat} {z z1 : cZ} {w w2 : mW} {si kd ky k r : Int32} {v : Int64} (hR : RI n z w) (hn : n < 512) (hc : cO_remove z si kd ky k v z1) (hm : mO_remove w si kd ky r w2) : RI (n + 1) z1 w2 ∧ rdH w2 = k ∧ (k = 0 → v = r.toInt64) := by
  obtain ⟨hq, hI, -, -, -, hZ, hP⟩ := id hR
  have hn8 := hR.n8 hn
  have hz := z_remove hc hq
  have hw := w_remove hm hI
  rcases hc with ⟨rfl, r9, rfl, i, k, j, a1, a2, a3, a4, (⟨a6, a7, rfl⟩ | ⟨a6, a7, rfl⟩)⟩ | ⟨hx, rfl⟩
  · have h00 : aA w si kd ky true = 0 := by simp [aA, (S_ok a1).1, (S_ok a1).2, (K_ok a2).1, (K_ok a2).2, hZ.lv hq a1.1 a2.1 a3 a4]
    rcases hm with ⟨-, i2, k2, j2, b1, b2, b3, b4, (⟨b5, b6, rfl⟩ | ⟨b5, b6, rfl⟩)⟩ | ⟨hne, -⟩
    · obtain rfl := aS_u a1 b1
      obtain rfl := aK_u a2 b2
      have hj := hZ.jj hq a1.1 a2.1 a3
      have hbj := hn8 k2 (by have := a2.1; omega)
      have hjk := b3.1
      have hkk := hZ.1 k2 a2.1
      obtain rfl := nI_inj (by omega) (by omega) (b3.2.symm.trans a3.2)
      rw [a6] at b5
      exact absurd b5 (by decide)
    · obtain rfl := aS_u a1 b1
      obtain rfl := aK_u a2 b2
      have hj := hZ.jj hq a1.1 a2.1 a3
      have hbj := hn8 k2 (by have := a2.1; omega)
      have hjk := b3.1
      have hkk := hZ.1 k2 a2.1
      obtain rfl := nI_inj (by omega) (by omega) (b3.2.symm.trans a3.2)
      subst a6
      exact ⟨hR.st hz hw ((hZ.lk (mLk.H (v := 0))).rmA hq a1.1 hj) (PT.le (hP.rmA hq a1.1 hj) (by omega)), mRmA_H _ _ _, fun _ => by
        rw [a7, b6, hq i2 1 a1.1 (by decide), ← hZ.1 1 (by decide), cnt_cnm ((hZ.lk (mLk.H (v := 0))).rm0 a1.1 hj) (cEq_N (kRm0_N _ _ _) hq) a1.1 _ _ (by rw [kRm0_N]; exact Nat.le_refl _), Nat.add_comm]⟩
    · exact absurd h00 hne
  · have h00 : aA w si kd ky true = 0 := by simp [aA, (S_ok a1).1, (S_ok a1).2, (K_ok a2).1, (K_ok a2).2, hZ.lv hq a1.1 a2.1 a3 a4]
    rcases hm with ⟨-, i2, k2, j2, b1, b2, b3, b4, (⟨b5, b6, rfl⟩ | ⟨b5, b6, rfl⟩)⟩ | ⟨hne, -⟩
    · obtain rfl := aS_u a1 b1
      obtain rfl := aK_u a2 b2
      have hj := hZ.jj hq a1.1 a2.1 a3
      have hbj := hn8 k2 (by have := a2.1; omega)
      have hjk := b3.1
      have hkk := hZ.1 k2 a2.1
      obtain rfl := nI_inj (by omega) (by omega) (b3.2.symm.trans a3.2)
      subst a6
      exact ⟨hR.st hz hw ((hZ.lk (mLk.H (v := 0))).rmB hq a1.1 hj) (PT.le (hP.rmB hq a1.1 hj) (by omega)), mRmB_H _ _ _, fun _ => by rw [a7, b6]⟩
    · obtain rfl := aS_u a1 b1
      obtain rfl := aK_u a2 b2
      have hj := hZ.jj hq a1.1 a2.1 a3
      have hbj := hn8 k2 (by have := a2.1; omega)
      have hjk := b3.1
      have hkk := hZ.1 k2 a2.1
      obtain rfl := nI_inj (by omega) (by omega) (b3.2.symm.trans a3.2)
      rw [a6] at b5
      exact absurd b5 (by decide)
    · exact absurd h00 hne
  · have hC : aA w si kd ky true = k := by
      rcases hx with ⟨rfl, hx⟩ | ⟨rfl, hx⟩ | ⟨rfl, hx⟩
      · simp [aA, hx]
      · simp [aA, hx.1, hx.2]
      · obtain ⟨i, k9, a1, a2, hx2⟩ := hx
        simp [aA, (S_ok a1).1, (S_ok a1).2, (K_ok a2).1, (K_ok a2).2, ← live_eq hZ hq a1.1 a2.1 ky, hx2]
    have hk9 : k ≠ 0 := by
      rcases hx with ⟨rfl, -⟩ | ⟨rfl, -⟩ | ⟨rfl, -⟩ <;> decide
    rcases hm with ⟨h0, -⟩ | ⟨-, rfl⟩
    · exact absurd (hC.symm.trans h0) hk9
    · exact ⟨hR.st hz hw (hZ.lk mLk.H) (hP.le (by omega)), hC, fun q => absurd q hk9⟩
theorem st_known {n : Nat} {z z1 : cZ} {w w2 : mW} {si k r : Int32} {v : Int64} (hR : RI n z w) (hn : n < 512) (hc : cO_known z si k v z1) (hm : mO_known w si r w2) : RI (n + 1) z1 w2 ∧ rdH w2 = k ∧ (k = 0 → v = r.toInt64) := by
  obtain ⟨hq, hI, -, -, -, hZ, hP⟩ := id hR
  have hn8 := hR.n8 hn
  have hz := z_known hc hq
  have hw := w_known hm hI
  rcases hc with ⟨rfl, r9, rfl, i, a1, a2, rfl⟩ | ⟨hx, rfl⟩
  · have h00 : aSe si = 0 := by simp [aSe, (S_ok a1).1]
    rcases hm with ⟨-, i2, b1, b2, rfl⟩ | ⟨hne, -⟩
    · obtain rfl := aS_u a1 b1
      refine ⟨hR.st hz hw (hZ.lk mLk.H) (hP.le (by omega)), rfl, fun _ => ?_⟩
      · rw [a2, b2, hq i2 0 a1.1 (by decide), hq i2 1 a1.1 (by decide), ← hZ.1 0 (by decide), ← hZ.1 1 (by decide)]
        refine congrArg (fun m => (nI m).toInt64) (congr (congrArg Nat.add (cnt_congr (fun j hj => ?_))) (cnt_congr (fun j hj => ?_)))
        · exact ((hZ.lk (mLk.H (v := 0))).kn a1.1 (by decide) hj).symm
        · exact ((hZ.lk (mLk.H (v := 0))).kn a1.1 (by decide) hj).symm
    · exact absurd h00 hne
  · have hC : aSe si = k := by
      obtain ⟨rfl, hx⟩ := hx
      simp [aSe, hx]
    have hk9 : k ≠ 0 := by
      obtain ⟨rfl, -⟩ := hx
      decide
    rcases hm with ⟨h0, -⟩ | ⟨-, rfl⟩
    · exact absurd (hC.symm.trans h0) hk9
    · exact ⟨hR.st hz hw (hZ.lk mLk.H) (hP.le (by omega)), hC, fun q => absurd q hk9⟩
theorem st_dirty {n : Nat} {z z1 : cZ} {w w2 : mW} {si k r : Int32} {v : Int64} (hR : RI n z w) (hn : n < 512) (hc : cO_dirty z si k v z1) (hm : mO_dirty w si r w2) : RI (n + 1) z1 w2 ∧ rdH w2 = k ∧ (k = 0 → v = r.toInt64) := by
  obtain ⟨hq, hI, -, -, -, hZ, hP⟩ := id hR
  have hn8 := hR.n8 hn
  have hz := z_dirty hc hq
  have hw := w_dirty hm hI
  rcases hc with ⟨rfl, r9, rfl, i, a1, a2, rfl⟩ | ⟨hx, rfl⟩
  · have h00 : aSe si = 0 := by simp [aSe, (S_ok a1).1]
    rcases hm with ⟨-, i2, b1, b2, rfl⟩ | ⟨hne, -⟩
    · obtain rfl := aS_u a1 b1
      refine ⟨hR.st hz hw (hZ.lk mLk.H) (hP.le (by omega)), rfl, fun _ => ?_⟩
      · rw [a2, b2, hq i2 0 a1.1 (by decide), hq i2 1 a1.1 (by decide), ← hZ.1 0 (by decide), ← hZ.1 1 (by decide)]
        refine congrArg (fun m => (nI m).toInt64) (congr (congrArg Nat.add (cnt_congr (fun j hj => ?_))) (cnt_congr (fun j hj => ?_)))
        · exact ((hZ.lk (mLk.H (v := 0))).dr a1.1 (by decide) hj).symm
        · exact ((hZ.lk (mLk.H (v := 0))).dr a1.1 (by decide) hj).symm
    · exact absurd h00 hne
  · have hC : aSe si = k := by
      obtain ⟨rfl, hx⟩ := hx
      simp [aSe, hx]
    have hk9 : k ≠ 0 := by
      obtain ⟨rfl, -⟩ := hx
      decide
    rcases hm with ⟨h0, -⟩ | ⟨-, rfl⟩
    · exact absurd (hC.symm.trans h0) hk9
    · exact ⟨hR.st hz hw (hZ.lk mLk.H) (hP.le (by omega)), hC, fun q => absurd q hk9⟩
theorem st_clear {n : Nat} {z z1 : cZ} {w w2 : mW} {si k r : Int32} {v : Int64} (hR : RI n z w) (hn : n < 512) (hc : cO_clear z si k v z1) (hm : mO_clear w si r w2) : RI (n + 1) z1 w2 ∧ rdH w2 = k ∧ (k = 0 → v = r.toInt64) := by
  obtain ⟨hq, hI, -, -, -, hZ, hP⟩ := id hR
  have hn8 := hR.n8 hn
  have hz := z_clear hc hq
  have hw := w_clear hm hI
  rcases hc with ⟨rfl, r9, rfl, i, a1, a2, rfl⟩ | ⟨hx, rfl⟩
  · have h00 : aSe si = 0 := by simp [aSe, (S_ok a1).1]
    rcases hm with ⟨-, i2, b1, b2, rfl⟩ | ⟨hne, -⟩
    · obtain rfl := aS_u a1 b1
      refine ⟨hR.st hz hw ((hZ.lk (mLk.H (v := 0))).fgs hq a1.1) (PT.le (hP.fgs hq a1.1) (by omega)), mCr_H _ _, fun _ => ?_⟩
      · rw [a2, b2, hq i2 0 a1.1 (by decide), hq i2 1 a1.1 (by decide), ← hZ.1 0 (by decide), ← hZ.1 1 (by decide)]
        refine congrArg (fun m => (nI m).toInt64) (congr (congrArg Nat.add (cnt_congr (fun j hj => ?_))) (cnt_congr (fun j hj => ?_)))
        · exact ((hZ.lk (mLk.H (v := 0))).kn a1.1 (by decide) hj).symm
        · exact ((hZ.lk (mLk.H (v := 0))).kn a1.1 (by decide) hj).symm
    · exact absurd h00 hne
  · have hC : aSe si = k := by
      obtain ⟨rfl, hx⟩ := hx
      simp [aSe, hx]
    have hk9 : k ≠ 0 := by
      obtain ⟨rfl, -⟩ := hx
      decide
    rcases hm with ⟨h0, -⟩ | ⟨-, rfl⟩
    · exact absurd (hC.symm.trans h0) hk9
    · exact ⟨hR.st hz hw (hZ.lk mLk.H) (hP.le (by omega)), hC, fun q => absurd q hk9⟩
theorem st_rows {n : Nat} {z z1 : cZ} {w w2 : mW} {kd k r : Int32} {v : Int64} (hR : RI n z w) (hn : n < 512) (hc : cO_rows z kd k v z1) (hm : mO_rows w kd r w2) : RI (n + 1) z1 w2 ∧ rdH w2 = k ∧ (k = 0 → v = r.toInt64) := by
  obtain ⟨hq, hI, -, -, -, hZ, hP⟩ := id hR
  have hn8 := hR.n8 hn
  have hz := z_rows hc hq
  have hw := w_rows hm hI
  rcases hc with ⟨rfl, r9, rfl, k, a1, a2, rfl⟩ | ⟨hx, rfl⟩
  · have h00 : aKi kd = 0 := by simp [aKi, (K_ok a1).1]
    rcases hm with ⟨-, k2, b1, b2, rfl⟩ | ⟨hne, -⟩
    · obtain rfl := aK_u a1 b1
      refine ⟨hR.st hz hw (hZ.lk mLk.H) (hP.le (by omega)), rfl, fun _ => ?_⟩
      rw [a2, b2, ← hZ.1 k2 a1.1]
      exact congrArg (fun m => (nI m).toInt64) (cnt_congr (fun j hj => ((hZ.lk (mLk.H (v := 0))).hr a1.1 hj).symm))
    · exact absurd h00 hne
  · have hC : aKi kd = k := by
      obtain ⟨rfl, hx⟩ := hx
      simp [aKi, hx]
    have hk9 : k ≠ 0 := by
      obtain ⟨rfl, -⟩ := hx
      decide
    rcases hm with ⟨h0, -⟩ | ⟨-, rfl⟩
    · exact absurd (hC.symm.trans h0) hk9
    · exact ⟨hR.st hz hw (hZ.lk mLk.H) (hP.le (by omega)), hC, fun q => absurd q hk9⟩
theorem st_rowName {n : Nat} {z z1 : cZ} {w w2 : mW} {kd ky k r : Int32} {v : Int64} (hR : RI n z w) (hn : n < 512) (hc : cO_rowName z kd ky k v z1) (hm : mO_rowName w kd ky r w2) : RI (n + 1) z1 w2 ∧ rdH w2 = k ∧ (k = 0 → v = r.toInt64) := by
  obtain ⟨hq, hI, -, -, -, hZ, hP⟩ := id hR
  have hn8 := hR.n8 hn
  have hz := z_rowName hc hq
  have hw := w_rowName hm hI
  rcases hc with ⟨rfl, r9, rfl, k, a1, a2, a3, rfl⟩ | ⟨hx, rfl⟩
  · have h00 : aRw w kd ky = 0 := by simp [aRw, (K_ok a1).1, (K_ok a1).2, ← row_eq hZ a1.1 ky, a2]
    rcases hm with ⟨-, k2, j2, b1, b2, b3, b4, rfl⟩ | ⟨hne, -⟩
    · obtain rfl := aK_u a1 b1
      have hj := b2.1
      rw [← hZ.1 k2 a1.1] at hj
      have hbj := hn8 k2 (by have := a1.1; omega)
      refine ⟨hR.st hz hw (hZ.lk mLk.H) (hP.le (by omega)), rfl, fun _ => ?_⟩
      rw [b2.2, rV_in hbj hj] at a2 a3
      rw [a3, b4]
      exact congrArg (fun q => (q.1 : Int32).toInt64) ((hZ.2.1 k2 j2 a1.1 hj).2 a2)
    · exact absurd h00 hne
  · have hC : aRw w kd ky = k := by
      rcases hx with ⟨rfl, hx⟩ | ⟨rfl, hx⟩
      · simp [aRw, hx]
      · obtain ⟨k9, a1, hx2⟩ := hx
        simp [aRw, (K_ok a1).1, (K_ok a1).2, ← row_eq hZ a1.1 ky, hx2]
    have hk9 : k ≠ 0 := by
      rcases hx with ⟨rfl, -⟩ | ⟨rfl, -⟩ <;> decide
    rcases hm with ⟨h0, -⟩ | ⟨-, rfl⟩
    · exact absurd (hC.symm.trans h0) hk9
    · exact ⟨hR.st hz hw (hZ.lk mLk.H) (hP.le (by omega)), hC, fun q => absurd q hk9⟩
theorem st_rowReference {n : Nat} {z z1 : cZ} {w w2 : mW} {kd ky k r : Int32} {v : Int64} (hR : RI n z w) (hn : n < 512) (hc : cO_rowReference z kd ky k v z1) (hm : mO_rowReference w kd ky r w2) : RI (n + 1) z1 w2 ∧ rdH w2 = k ∧ (k = 0 → v = r.toInt64) := by
  obtain ⟨hq, hI, -, -, -, hZ, hP⟩ := id hR
  have hn8 := hR.n8 hn
  have hz := z_rowReference hc hq
  have hw := w_rowReference hm hI
  rcases hc with ⟨rfl, r9, rfl, k, a1, a2, a3, rfl⟩ | ⟨hx, rfl⟩
  · have h00 : aRw w kd ky = 0 := by simp [aRw, (K_ok a1).1, (K_ok a1).2, ← row_eq hZ a1.1 ky, a2]
    rcases hm with ⟨-, k2, j2, b1, b2, b3, b4, rfl⟩ | ⟨hne, -⟩
    · obtain rfl := aK_u a1 b1
      have hj := b2.1
      rw [← hZ.1 k2 a1.1] at hj
      have hbj := hn8 k2 (by have := a1.1; omega)
      refine ⟨hR.st hz hw (hZ.lk mLk.H) (hP.le (by omega)), rfl, fun _ => ?_⟩
      rw [b2.2, rV_in hbj hj] at a2 a3
      rw [a3, b4]
      exact congrArg (fun q => (q.2.1 : Int32).toInt64) ((hZ.2.1 k2 j2 a1.1 hj).2 a2)
    · exact absurd h00 hne
  · have hC : aRw w kd ky = k := by
      rcases hx with ⟨rfl, hx⟩ | ⟨rfl, hx⟩
      · simp [aRw, hx]
      · obtain ⟨k9, a1, hx2⟩ := hx
        simp [aRw, (K_ok a1).1, (K_ok a1).2, ← row_eq hZ a1.1 ky, hx2]
    have hk9 : k ≠ 0 := by
      rcases hx with ⟨rfl, -⟩ | ⟨rfl, -⟩ <;> decide
    rcases hm with ⟨h0, -⟩ | ⟨-, rfl⟩
    · exact absurd (hC.symm.trans h0) hk9
    · exact ⟨hR.st hz hw (hZ.lk mLk.H) (hP.le (by omega)), hC, fun q => absurd q hk9⟩
theorem st_rowVersion {n : Nat} {z z1 : cZ} {w w2 : mW} {kd ky k r : Int32} {v : Int64} (hR : RI n z w) (hn : n < 512) (hc : cO_rowVersion z kd ky k v z1) (hm : mO_rowVersion w kd ky r w2) : RI (n + 1) z1 w2 ∧ rdH w2 = k ∧ (k = 0 → v = r.toInt64) := by
  obtain ⟨hq, hI, -, -, -, hZ, hP⟩ := id hR
  have hn8 := hR.n8 hn
  have hz := z_rowVersion hc hq
  have hw := w_rowVersion hm hI
  rcases hc with ⟨rfl, r9, rfl, k, a1, a2, a3, rfl⟩ | ⟨hx, rfl⟩
  · have h00 : aRw w kd ky = 0 := by simp [aRw, (K_ok a1).1, (K_ok a1).2, ← row_eq hZ a1.1 ky, a2]
    rcases hm with ⟨-, k2, j2, b1, b2, b3, b4, rfl⟩ | ⟨hne, -⟩
    · obtain rfl := aK_u a1 b1
      have hj := b2.1
      rw [← hZ.1 k2 a1.1] at hj
      have hbj := hn8 k2 (by have := a1.1; omega)
      refine ⟨hR.st hz hw (hZ.lk mLk.H) (hP.le (by omega)), rfl, fun _ => ?_⟩
      rw [b2.2, rV_in hbj hj] at a2 a3
      rw [a3, b4]
      exact congrArg (fun q => (q.2.2 : Int32).toInt64) ((hZ.2.1 k2 j2 a1.1 hj).2 a2)
    · exact absurd h00 hne
  · have hC : aRw w kd ky = k := by
      rcases hx with ⟨rfl, hx⟩ | ⟨rfl, hx⟩
      · simp [aRw, hx]
      · obtain ⟨k9, a1, hx2⟩ := hx
        simp [aRw, (K_ok a1).1, (K_ok a1).2, ← row_eq hZ a1.1 ky, hx2]
    have hk9 : k ≠ 0 := by
      rcases hx with ⟨rfl, -⟩ | ⟨rfl, -⟩ <;> decide
    rcases hm with ⟨h0, -⟩ | ⟨-, rfl⟩
    · exact absurd (hC.symm.trans h0) hk9
    · exact ⟨hR.st hz hw (hZ.lk mLk.H) (hP.le (by omega)), hC, fun q => absurd q hk9⟩
theorem fi_b {w w2 : mW} {si kd ky r : Int32} (hm : mO_find w si kd ky r w2) (h : rdH w2 = 0) : ∃ b9 : Bool, r = bI b9 := by
  rcases hm with ⟨-, i, k, -, -, e, -⟩ | ⟨h0, rfl⟩
  · exact ⟨_, e⟩
  · exact absurd h h0
theorem st_flush {n : Nat} {z z1 : cZ} {w w2 : mW} {si k r : Int32} {v : Int64} (hR : RI n z w) (hn : n < 512) (hc : cO_flush z si k v z1) (hm : mO_flush w si r w2) : RI (n + 1) z1 w2 ∧ rdH w2 = k := by
  obtain ⟨hq, hI, -, -, -, hZ, hP⟩ := id hR
  have hn8 := hR.n8 hn
  have hz := z_flush hc hq
  have hw := w_flush hm hI
  rcases hc with ⟨rfl, r9, rfl, i, a1, a2, a3, a4, rfl⟩ | ⟨hx, rfl⟩
  · have h00 : aFl w si = 0 := by
      have h9 := fl_eq hZ hq hI hn8 a1.1
      rw [a3] at h9
      simp [aFl, (S_ok a1).1, (S_ok a1).2, show mCan w i = true from by simpa using h9.symm]
    rcases hm with ⟨-, i2, b1, b2, rfl⟩ | ⟨hne, -⟩
    · obtain rfl := aS_u a1 b1
      refine ⟨hR.st hz hw (((hZ.lk (mWbs_L (i := i2))).lk (mLk.H (v := 0))).fl hq (hI.lk mWbs_L).H a1.1 hn8 a3) ((hP.fl (by omega) hq a1.1 a3).le (by omega)), ?_⟩
      have e1 : ∀ k j w, rdH (mIn i2 k j w) = rdH w := fun k j w => by
        unfold mIn
        split <;> rfl
      have e2 : ∀ k j w, rdH (mUp i2 k j w) = rdH w := fun k j w => by
        unfold mUp
        split <;> rfl
      have e3 : ∀ k j w, rdH (mDe i2 k j w) = rdH w := fun k j w => by
        unfold mDe
        split <;> rfl
      exact (itm_H (e3 0) _ _).trans ((itm_H (e3 1) _ _).trans ((itm_H (e2 1) _ _).trans ((itm_H (e2 0) _ _).trans ((itm_H (e1 1) _ _).trans (itm_H (e1 0) _ _)))))
    · exact absurd h00 hne
  · have hC : aFl w si = k := by
      rcases hx with ⟨rfl, hx⟩ | ⟨rfl, i, a1, hx⟩
      · simp [aFl, hx]
      · have h9 := fl_eq hZ hq hI hn8 a1.1
        rcases hx with hx | hx
        · have := hP.2
          omega
        · rw [hx] at h9
          simp [aFl, (S_ok a1).1, (S_ok a1).2, show mCan w i = false from by simpa using h9.symm]
    have hk9 : k ≠ 0 := by
      rcases hx with ⟨rfl, -⟩ | ⟨rfl, -⟩ <;> decide
    rcases hm with ⟨h0, -⟩ | ⟨-, l, e⟩
    · exact absurd (hC.symm.trans h0) hk9
    · exact ⟨hR.st hz hw (hZ.lk l) (hP.le (by omega)), e.trans hC⟩
theorem st_writes {n : Nat} {z : cZ} {w w2 : mW} (hR : RI n z w) (hn : n < 512) (e : w2 = mH w 0) : RI (n + 1) z w2 ∧ True := by
  obtain ⟨hq, hI, -, -, -, hZ, hP⟩ := id hR
  have hn8 := hR.n8 hn
  subst e
  exact ⟨hR.st (zSt.keep hq rfl) (wSt.H hI 0) (hZ.lk mLk.H) (hP.le (by omega)), trivial⟩
theorem st_write {n : Nat} {z z1 : cZ} {w w2 : mW} {nu k r : Int32} {v : Int64} (hR : RI n z w) (hn : n < 512) (hc : cO_write z nu k v z1) (hm : mO_write w nu r w2) : RI (n + 1) z1 w2 ∧ True := by
  obtain ⟨hq, hI, -, -, -, hZ, hP⟩ := id hR
  have hn8 := hR.n8 hn
  have hz := z_write hc hq
  have hw := w_write hm hI
  have e1 : z1 = z := by
    rcases hc with ⟨-, r9, -, j, -, -, -, e⟩ | ⟨-, e⟩
    · exact e
    · exact e
  have e2 : ∃ v9, w2 = mH w v9 := by
    rcases hm with ⟨-, n9, -, -, -, e⟩ | ⟨-, e⟩
    · exact ⟨_, e⟩
    · exact ⟨_, e⟩
  obtain ⟨v9, e2⟩ := e2
  subst e1
  subst e2
  exact ⟨hR.st hz hw (hZ.lk mLk.H) (hP.le (by omega)), trivial⟩
theorem st_written {n : Nat} {z z1 : cZ} {w w2 : mW} {nu k r : Int32} {v : Int64} (hR : RI n z w) (hn : n < 512) (hc : cO_written z nu k v z1) (hm : mO_written w nu r w2) : RI (n + 1) z1 w2 ∧ True := by
  obtain ⟨hq, hI, -, -, -, hZ, hP⟩ := id hR
  have hn8 := hR.n8 hn
  have hz := z_written hc hq
  have hw := w_written hm hI
  have e1 : z1 = z := by
    rcases hc with ⟨-, r9, -, j, -, -, -, e⟩ | ⟨-, e⟩
    · exact e
    · exact e
  have e2 : ∃ v9, w2 = mH w v9 := by
    rcases hm with ⟨-, n9, -, -, -, e⟩ | ⟨-, e⟩
    · exact ⟨_, e⟩
    · exact ⟨_, e⟩
  obtain ⟨v9, e2⟩ := e2
  subst e1
  subst e2
  exact ⟨hR.st hz hw (hZ.lk mLk.H) (hP.le (by omega)), trivial⟩
theorem st_none {n : Nat} {z : cZ} {w : mW} (hR : RI n z w) : RI (n + 1) z w := hR.st (zSt.keep hR.1 rfl) (wSt.keep hR.2.1 rfl (Nat.le_add_right _ _)) hR.2.2.2.2.2.1 (hR.2.2.2.2.2.2.le (by omega))
theorem RI_0 {z : cZ} (hz : ∀ u, zN z u = 0) (hW : zW z = 0) : RI 0 z w0M := by
  refine ⟨fun i k _ _ => by rw [hz, hz], w0M_I, fun u _ => by rw [hz]; exact Nat.le_refl _, fun k _ => Nat.le_refl _, Nat.zero_le _, ⟨fun k _ => hz k, fun k j _ hj => by rw [hz] at hj; exact absurd hj (Nat.not_lt_zero j), fun i k j _ _ hj => by rw [hz] at hj; exact absurd hj (Nat.not_lt_zero j), fun _ _ _ _ _ => rfl, fun _ _ _ _ _ _ _ => ⟨rfl, rfl⟩, fun k _ => by rw [hz]; exact Nat.zero_le _⟩, fun k j _ hj => by rw [hz] at hj; exact absurd hj (Nat.not_lt_zero j), ?_⟩
  unfold Phi
  rw [hz, hz, hW]
  exact Nat.le_refl _
