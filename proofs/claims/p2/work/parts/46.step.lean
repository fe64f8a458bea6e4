theorem itr_zC {F : Nat → cZ → cZ} (h : ∀ j z, zC (F j z) = zC z) (n : Nat) (z : cZ) : zC (itr F n z) = zC z := by
  induction n with
  | zero => rfl
  | succ n ih => exact (h n _).trans ih
theorem kLd_zC (i k : Nat) (t : Int32) (j : Nat) (z : cZ) : zC (kLd i k t j z) = zC z := by
  unfold kLd
  split <;> rfl
theorem kCl_zC (i : Nat) (t : Int32) (j : Nat) (z : cZ) : zC (kCl i t j z) = zC z := by
  unfold kCl
  split <;> rfl
theorem kRmB_zC (i b : Nat) (z : cZ) : zC (kRmB i b z) = zC z := (itr_zC (kCl_zC i (nI b)) _ _).trans (itr_zC (kLd_zC i 0 (nI b)) _ _)
theorem kRb_zC (i : Nat) (t : Int32) (j : Nat) (z : cZ) : zC (kRb i t j z) = zC z := by
  unfold kRb
  split
  · exact kRmB_zC i j z
  · rfl
theorem kRmA_zC (i a : Nat) (z : cZ) : zC (kRmA i a z) = zC z := (itr_zC (kRb_zC i (nI a)) _ _).trans (itr_zC (kLd_zC i 1 (nI a)) _ _)
theorem kFi_zC (i k : Nat) (ky : Int32) (z : cZ) : zC (kFi i k ky z) = zC z := by
  unfold kFi
  split <;> rfl
theorem zc_makeAuthor {z z1 : cZ} {si nm k : Int32} {v : Int64} (h : cO_makeAuthor z si nm k v z1) : zC z1 = zC z := by
  rcases h with ⟨-, ⟨r, -, i, a1, a2, (⟨a3, a4, rfl⟩ | ⟨a3, a4, rfl⟩)⟩⟩ | ⟨-, rfl⟩
  · rfl
  · rfl
  · rfl
theorem zc_makeBook {z z1 : cZ} {si nm au k : Int32} {v : Int64} (h : cO_makeBook z si nm au k v z1) : zC z1 = zC z := by
  rcases h with ⟨-, ⟨r, -, i, a1, a2, a6, (⟨a3, a4, rfl⟩ | ⟨a3, a4, rfl⟩)⟩⟩ | ⟨-, rfl⟩
  · rfl
  · rfl
  · rfl
theorem zc_find {z z1 : cZ} {si kd ky k : Int32} {v : Int64} (h : cO_find z si kd ky k v z1) : zC z1 = zC z := by
  rcases h with ⟨-, ⟨r, -, i, k, a1, a2, a3, rfl⟩⟩ | ⟨-, rfl⟩
  · exact kFi_zC _ _ _ _
  · rfl
theorem zc_books {z z1 : cZ} {si au k : Int32} {v : Int64} (h : cO_books z si au k v z1) : zC z1 = zC z := by
  rcases h with ⟨-, ⟨r, -, i, a1, a2, a3, rfl⟩⟩ | ⟨-, rfl⟩
  · exact itr_zC (kLd_zC i 1 au) _ _
  · rfl
theorem zc_setName {z z1 : cZ} {si kd ky nm k : Int32} (h : cO_setName z si kd ky nm k z1) : zC z1 = zC z := by
  rcases h with ⟨-, ⟨i, k, j, a1, a2, a3, a4, a6, rfl⟩⟩ | ⟨-, rfl⟩
  · rfl
  · rfl
theorem zc_setReference {z z1 : cZ} {si kd ky rf k : Int32} (h : cO_setReference z si kd ky rf k z1) : zC z1 = zC z := by
  rcases h with ⟨-, ⟨i, k, j, a1, a2, a3, a4, a6, a7, rfl⟩⟩ | ⟨-, rfl⟩
  · rfl
  · rfl
theorem zc_remove {z z1 : cZ} {si kd ky k : Int32} {v : Int64} (h : cO_remove z si kd ky k v z1) : zC z1 = zC z := by
  rcases h with ⟨-, ⟨r, -, i, k, j, a1, a2, a3, a4, (⟨a6, a7, rfl⟩ | ⟨a6, a7, rfl⟩)⟩⟩ | ⟨-, rfl⟩
  · exact kRmA_zC _ _ _
  · exact kRmB_zC _ _ _
  · rfl
theorem zc_name {z z1 : cZ} {si kd ky k : Int32} {v : Int64} (h : cO_name z si kd ky k v z1) : zC z1 = zC z := by
  rcases h with ⟨-, ⟨r, -, i, k, j, a1, a2, a3, a4, a6, rfl⟩⟩ | ⟨-, rfl⟩
  · rfl
  · rfl
theorem zc_reference {z z1 : cZ} {si kd ky k : Int32} {v : Int64} (h : cO_reference z si kd ky k v z1) : zC z1 = zC z := by
  rcases h with ⟨-, ⟨r, -, i, k, j, a1, a2, a3, a4, a6, rfl⟩⟩ | ⟨-, rfl⟩
  · rfl
  · rfl
theorem zc_known {z z1 : cZ} {si k : Int32} {v : Int64} (h : cO_known z si k v z1) : zC z1 = zC z := by
  rcases h with ⟨-, ⟨r, -, i, a1, a2, rfl⟩⟩ | ⟨-, rfl⟩
  · rfl
  · rfl
theorem zc_dirty {z z1 : cZ} {si k : Int32} {v : Int64} (h : cO_dirty z si k v z1) : zC z1 = zC z := by
  rcases h with ⟨-, ⟨r, -, i, a1, a2, rfl⟩⟩ | ⟨-, rfl⟩
  · rfl
  · rfl
theorem zc_clear {z z1 : cZ} {si k : Int32} {v : Int64} (h : cO_clear z si k v z1) : zC z1 = zC z := by
  rcases h with ⟨-, ⟨r, -, i, a1, a3, rfl⟩⟩ | ⟨-, rfl⟩
  · exact (itr_zC (F := kFg i 1) (fun _ _ => rfl) _ _).trans (itr_zC (F := kFg i 0) (fun _ _ => rfl) _ _)
  · rfl
theorem zc_rows {z z1 : cZ} {kd k : Int32} {v : Int64} (h : cO_rows z kd k v z1) : zC z1 = zC z := by
  rcases h with ⟨-, ⟨r, -, i, a1, a2, rfl⟩⟩ | ⟨-, rfl⟩
  · rfl
  · rfl
theorem zc_rowName {z z1 : cZ} {kd ky k : Int32} {v : Int64} (h : cO_rowName z kd ky k v z1) : zC z1 = zC z := by
  rcases h with ⟨-, ⟨r, -, k, a1, a2, a3, rfl⟩⟩ | ⟨-, rfl⟩
  · rfl
  · rfl
theorem zc_rowReference {z z1 : cZ} {kd ky k : Int32} {v : Int64} (h : cO_rowReference z kd ky k v z1) : zC z1 = zC z := by
  rcases h with ⟨-, ⟨r, -, k, a1, a2, a3, rfl⟩⟩ | ⟨-, rfl⟩
  · rfl
  · rfl
theorem zc_rowVersion {z z1 : cZ} {kd ky k : Int32} {v : Int64} (h : cO_rowVersion z kd ky k v z1) : zC z1 = zC z := by
  rcases h with ⟨-, ⟨r, -, k, a1, a2, a3, rfl⟩⟩ | ⟨-, rfl⟩
  · rfl
  · rfl
theorem zc_write {z z1 : cZ} {nu k : Int32} {v : Int64} (h : cO_write z nu k v z1) : zC z1 = zC z := by
  rcases h with ⟨-, ⟨r, -, j, a1, a2, a3, rfl⟩⟩ | ⟨-, rfl⟩
  · rfl
  · rfl
theorem zc_written {z z1 : cZ} {nu k : Int32} {v : Int64} (h : cO_written z nu k v z1) : zC z1 = zC z := by
  rcases h with ⟨-, ⟨r, -, j, a1, a2, a3, rfl⟩⟩ | ⟨-, rfl⟩
  · rfl
  · rfl
def RI (n : Nat) (z : cZ) (w : mW) : Prop := cEq z ∧ mInv w ∧ (∀ u, u < 8 → zN z u ≤ n) ∧ (∀ k, k < 2 → rdK w k ≤ n) ∧ rdN w ≤ 6144 * n ∧ zN z 0 = rdK w 0
theorem RI.st {n : Nat} {z z1 : cZ} {w w2 : mW} (hR : RI n z w) (hz : zSt z z1) (hw : wSt w w2) (h0 : zN z1 0 = rdK w2 0) : RI (n + 1) z1 w2 := by
  obtain ⟨h1, h2, h3, h4, h5, h6⟩ := hR
  refine ⟨hz.1, hw.1, fun u hu => ?_, fun k hk => ?_, ?_, h0⟩
  · have a := hz.2 u hu
    have b := h3 u hu
    omega
  · have a := hw.2.1 k hk
    have b := h4 k hk
    omega
  · have a := hw.2.2
    omega
theorem zk_makeBook {z z1 : cZ} {si nm au k : Int32} {v : Int64} (h : cO_makeBook z si nm au k v z1) : zN z1 0 = zN z 0 := by
  rcases h with ⟨-, ⟨r, -, i, a1, a2, a6, (⟨a3, a4, rfl⟩ | ⟨a3, a4, rfl⟩)⟩⟩ | ⟨-, rfl⟩
  · exact (kMk_N (by decide) 0).trans (if_neg (by unfold sL; omega))
  · rfl
  · rfl
theorem wk_makeBook {w w2 : mW} {si nm au r : Int32} (h : mO_makeBook w si nm au r w2) : rdK w2 0 = rdK w 0 := by
  rcases h with ⟨-, ⟨i, a1, a2, a3, a4, rfl⟩⟩ | ⟨-, rfl⟩
  · rfl
  · rfl
theorem st_makeBook {n : Nat} {z z1 : cZ} {w w2 : mW} {si nm au k r : Int32} {v : Int64} (hR : RI n z w) (hn : n < 512) (hc : cO_makeBook z si nm au k v z1) (hm : mO_makeBook w si nm au r w2) : RI (n + 1) z1 w2 := hR.st (z_makeBook hc hR.1) (w_makeBook hm hR.2.1 (by have h9 := hR.2.2.2.1 1 (by decide); omega)) ((zk_makeBook hc).trans (hR.2.2.2.2.2.trans (wk_makeBook hm).symm))
theorem zk_find {z z1 : cZ} {si kd ky k : Int32} {v : Int64} (h : cO_find z si kd ky k v z1) : zN z1 0 = zN z 0 := by
  rcases h with ⟨-, ⟨r, -, i, k, a1, a2, a3, rfl⟩⟩ | ⟨-, rfl⟩
  · exact congrFun (kFi_N _ _ _ _) 0
  · rfl
theorem wk_find {w w2 : mW} {si kd ky r : Int32} (h : mO_find w si kd ky r w2) : rdK w2 0 = rdK w 0 := by
  rcases h with ⟨-, ⟨i, k, a1, a2, a3, rfl⟩⟩ | ⟨-, rfl⟩
  · exact congrFun (mFi_K _ _ _ _) 0
  · rfl
theorem st_find {n : Nat} {z z1 : cZ} {w w2 : mW} {si kd ky k r : Int32} {v : Int64} (hR : RI n z w) (hn : n < 512) (hc : cO_find z si kd ky k v z1) (hm : mO_find w si kd ky r w2) : RI (n + 1) z1 w2 := hR.st (z_find hc hR.1) (w_find hm hR.2.1) ((zk_find hc).trans (hR.2.2.2.2.2.trans (wk_find hm).symm))
theorem zk_books {z z1 : cZ} {si au k : Int32} {v : Int64} (h : cO_books z si au k v z1) : zN z1 0 = zN z 0 := by
  rcases h with ⟨-, ⟨r, -, i, a1, a2, a3, rfl⟩⟩ | ⟨-, rfl⟩
  · exact congrFun (itr_N (kLd_N i 1 au) _ _) 0
  · rfl
theorem wk_books {w w2 : mW} {si au r : Int32} (h : mO_books w si au r w2) : rdK w2 0 = rdK w 0 := by
  rcases h with ⟨-, ⟨i, a1, a2, a3, rfl⟩⟩ | ⟨-, rfl⟩
  · exact congrFun (itm_K (mLd_K i 1 au) _ _) 0
  · rfl
theorem st_books {n : Nat} {z z1 : cZ} {w w2 : mW} {si au k r : Int32} {v : Int64} (hR : RI n z w) (hn : n < 512) (hc : cO_books z si au k v z1) (hm : mO_books w si au r w2) : RI (n + 1) z1 w2 := hR.st (z_books hc hR.1) (w_books hm hR.2.1) ((zk_books hc).trans (hR.2.2.2.2.2.trans (wk_books hm).symm))
theorem zk_setName {z z1 : cZ} {si kd ky nm k : Int32} (h : cO_setName z si kd ky nm k z1) : zN z1 0 = zN z 0 := by
  rcases h with ⟨-, ⟨i, k, j, a1, a2, a3, a4, a6, rfl⟩⟩ | ⟨-, rfl⟩
  · rfl
  · rfl
theorem wk_setName {w w2 : mW} {si kd ky nm : Int32} (h : mO_setName w si kd ky nm w2) : rdK w2 0 = rdK w 0 := by
  rcases h with ⟨-, ⟨i, k, j, a1, a2, a3, a4, rfl⟩⟩ | ⟨-, rfl⟩
  · rfl
  · rfl
theorem st_setName {n : Nat} {z z1 : cZ} {w w2 : mW} {si kd ky nm k : Int32} (hR : RI n z w) (hn : n < 512) (hc : cO_setName z si kd ky nm k z1) (hm : mO_setName w si kd ky nm w2) : RI (n + 1) z1 w2 := hR.st (z_setName hc hR.1) (w_setName hm hR.2.1) ((zk_setName hc).trans (hR.2.2.2.2.2.trans (wk_setName hm).symm))
theorem zk_setReference {z z1 : cZ} {si kd ky rf k : Int32} (h : cO_setReference z si kd ky rf k z1) : zN z1 0 = zN z 0 := by
  rcases h with ⟨-, ⟨i, k, j, a1, a2, a3, a4, a6, a7, rfl⟩⟩ | ⟨-, rfl⟩
  · rfl
  · rfl
theorem wk_setReference {w w2 : mW} {si kd ky rf : Int32} (h : mO_setReference w si kd ky rf w2) : rdK w2 0 = rdK w 0 := by
  rcases h with ⟨-, ⟨i, k, j, a1, a2, a3, a4, a5, rfl⟩⟩ | ⟨-, rfl⟩
  · rfl
  · rfl
theorem st_setReference {n : Nat} {z z1 : cZ} {w w2 : mW} {si kd ky rf k : Int32} (hR : RI n z w) (hn : n < 512) (hc : cO_setReference z si kd ky rf k z1) (hm : mO_setReference w si kd ky rf w2) : RI (n + 1) z1 w2 := hR.st (z_setReference hc hR.1) (w_setReference hm hR.2.1) ((zk_setReference hc).trans (hR.2.2.2.2.2.trans (wk_setReference hm).symm))
theorem zk_remove {z z1 : cZ} {si kd ky k : Int32} {v : Int64} (h : cO_remove z si kd ky k v z1) : zN z1 0 = zN z 0 := by
  rcases h with ⟨-, ⟨r, -, i, k, j, a1, a2, a3, a4, (⟨a6, a7, rfl⟩ | ⟨a6, a7, rfl⟩)⟩⟩ | ⟨-, rfl⟩
  · exact congrFun (kRmA_N _ _ _) 0
  · exact congrFun (kRmB_N _ _ _) 0
  · rfl
theorem wk_remove {w w2 : mW} {si kd ky r : Int32} (h : mO_remove w si kd ky r w2) : rdK w2 0 = rdK w 0 := by
  rcases h with ⟨-, ⟨i, k, j, a1, a2, a3, a4, (⟨a5, a6, rfl⟩ | ⟨a5, a6, rfl⟩)⟩⟩ | ⟨-, rfl⟩
  · exact congrFun (mRmB_K _ _ _) 0
  · exact congrFun (mRmA_K _ _ _) 0
  · rfl
theorem st_remove {n : Nat} {z z1 : cZ} {w w2 : mW} {si kd ky k r : Int32} {v : Int64} (hR : RI n z w) (hn : n < 512) (hc : cO_remove z si kd ky k v z1) (hm : mO_remove w si kd ky r w2) : RI (n + 1) z1 w2 := hR.st (z_remove hc hR.1) (w_remove hm hR.2.1) ((zk_remove hc).trans (hR.2.2.2.2.2.trans (wk_remove hm).symm))
theorem zk_name {z z1 : cZ} {si kd ky k : Int32} {v : Int64} (h : cO_name z si kd ky k v z1) : zN z1 0 = zN z 0 := by
  rcases h with ⟨-, ⟨r, -, i, k, j, a1, a2, a3, a4, a6, rfl⟩⟩ | ⟨-, rfl⟩
  · rfl
  · rfl
theorem wk_name {w w2 : mW} {si kd ky r : Int32} (h : mO_name w si kd ky r w2) : rdK w2 0 = rdK w 0 := by
  rcases h with ⟨-, ⟨i, k, j, a1, a2, a3, a4, a5, rfl⟩⟩ | ⟨-, rfl⟩
  · rfl
  · rfl
theorem st_name {n : Nat} {z z1 : cZ} {w w2 : mW} {si kd ky k r : Int32} {v : Int64} (hR : RI n z w) (hn : n < 512) (hc : cO_name z si kd ky k v z1) (hm : mO_name w si kd ky r w2) : RI (n + 1) z1 w2 := hR.st (z_name hc hR.1) (w_name hm hR.2.1) ((zk_name hc).trans (hR.2.2.2.2.2.trans (wk_name hm).symm))
theorem zk_reference {z z1 : cZ} {si kd ky k : Int32} {v : Int64} (h : cO_reference z si kd ky k v z1) : zN z1 0 = zN z 0 := by
  rcases h with ⟨-, ⟨r, -, i, k, j, a1, a2, a3, a4, a6, rfl⟩⟩ | ⟨-, rfl⟩
  · rfl
  · rfl
theorem wk_reference {w w2 : mW} {si kd ky r : Int32} (h : mO_reference w si kd ky r w2) : rdK w2 0 = rdK w 0 := by
  rcases h with ⟨-, ⟨i, k, j, a1, a2, a3, a4, a5, rfl⟩⟩ | ⟨-, rfl⟩
  · rfl
  · rfl
theorem st_reference {n : Nat} {z z1 : cZ} {w w2 : mW} {si kd ky k r : Int32} {v : Int64} (hR : RI n z w) (hn : n < 512) (hc : cO_reference z si kd ky k v z1) (hm : mO_reference w si kd ky r w2) : RI (n + 1) z1 w2 := hR.st (z_reference hc hR.1) (w_reference hm hR.2.1) ((zk_reference hc).trans (hR.2.2.2.2.2.trans (wk_reference hm).symm))
theorem zk_known {z z1 : cZ} {si k : Int32} {v : Int64} (h : cO_known z si k v z1) : zN z1 0 = zN z 0 := by
  rcases h with ⟨-, ⟨r, -, i, a1, a2, rfl⟩⟩ | ⟨-, rfl⟩
  · rfl
  · rfl
theorem wk_known {w w2 : mW} {si r : Int32} (h : mO_known w si r w2) : rdK w2 0 = rdK w 0 := by
  rcases h with ⟨-, ⟨i, a1, a2, rfl⟩⟩ | ⟨-, rfl⟩
  · rfl
  · rfl
theorem st_known {n : Nat} {z z1 : cZ} {w w2 : mW} {si k r : Int32} {v : Int64} (hR : RI n z w) (hn : n < 512) (hc : cO_known z si k v z1) (hm : mO_known w si r w2) : RI (n + 1) z1 w2 := hR.st (z_known hc hR.1) (w_known hm hR.2.1) ((zk_known hc).trans (hR.2.2.2.2.2.trans (wk_known hm).symm))
theorem zk_dirty {z z1 : cZ} {si k : Int32} {v : Int64} (h : cO_dirty z si k v z1) : zN z1 0 = zN z 0 := by
  rcases h with ⟨-, ⟨r, -, i, a1, a2, rfl⟩⟩ | ⟨-, rfl⟩
  · rfl
  · rfl
theorem wk_dirty {w w2 : mW} {si r : Int32} (h : mO_dirty w si r w2) : rdK w2 0 = rdK w 0 := by
  rcases h with ⟨-, ⟨i, a1, a2, rfl⟩⟩ | ⟨-, rfl⟩
  · rfl
  · rfl
theorem st_dirty {n : Nat} {z z1 : cZ} {w w2 : mW} {si k r : Int32} {v : Int64} (hR : RI n z w) (hn : n < 512) (hc : cO_dirty z si k v z1) (hm : mO_dirty w si r w2) : RI (n + 1) z1 w2 := hR.st (z_dirty hc hR.1) (w_dirty hm hR.2.1) ((zk_dirty hc).trans (hR.2.2.2.2.2.trans (wk_dirty hm).symm))
theorem zk_flush {z z1 : cZ} {si k : Int32} {v : Int64} (h : cO_flush z si k v z1) : zN z1 0 = zN z 0 := by
  rcases h with ⟨-, ⟨r, -, i, a1, a2, a3, a4, rfl⟩⟩ | ⟨-, rfl⟩
  · exact congrFun (kFl_N _ _) 0
  · rfl
theorem wk_flush {w w2 : mW} {si r : Int32} (h : mO_flush w si r w2) : rdK w2 0 = rdK w 0 := by
  rcases h with ⟨-, ⟨i, a1, a2, rfl⟩⟩ | ⟨-, l, -⟩
  · exact congrFun ((mFl_K i (mH (mWbs i w) 0)).trans (mWbs_L (i := i) (w := w)).1) 0
  · exact congrFun l.1 0
theorem st_flush {n : Nat} {z z1 : cZ} {w w2 : mW} {si k r : Int32} {v : Int64} (hR : RI n z w) (hn : n < 512) (hc : cO_flush z si k v z1) (hm : mO_flush w si r w2) : RI (n + 1) z1 w2 := hR.st (z_flush hc hR.1) (w_flush hm hR.2.1) ((zk_flush hc).trans (hR.2.2.2.2.2.trans (wk_flush hm).symm))
theorem zk_clear {z z1 : cZ} {si k : Int32} {v : Int64} (h : cO_clear z si k v z1) : zN z1 0 = zN z 0 := by
  rcases h with ⟨-, ⟨r, -, i, a1, a3, rfl⟩⟩ | ⟨-, rfl⟩
  · exact congrFun ((itr_N (kFg_N i 1) _ _).trans (itr_N (kFg_N i 0) _ _)) 0
  · rfl
theorem wk_clear {w w2 : mW} {si r : Int32} (h : mO_clear w si r w2) : rdK w2 0 = rdK w 0 := by
  rcases h with ⟨-, ⟨i, a1, a2, rfl⟩⟩ | ⟨-, rfl⟩
  · exact congrFun (mCr_K _ _) 0
  · rfl
theorem st_clear {n : Nat} {z z1 : cZ} {w w2 : mW} {si k r : Int32} {v : Int64} (hR : RI n z w) (hn : n < 512) (hc : cO_clear z si k v z1) (hm : mO_clear w si r w2) : RI (n + 1) z1 w2 := hR.st (z_clear hc hR.1) (w_clear hm hR.2.1) ((zk_clear hc).trans (hR.2.2.2.2.2.trans (wk_clear hm).symm))
theorem zk_rows {z z1 : cZ} {kd k : Int32} {v : Int64} (h : cO_rows z kd k v z1) : zN z1 0 = zN z 0 := by
  rcases h with ⟨-, ⟨r, -, i, a1, a2, rfl⟩⟩ | ⟨-, rfl⟩
  · rfl
  · rfl
theorem wk_rows {w w2 : mW} {kd r : Int32} (h : mO_rows w kd r w2) : rdK w2 0 = rdK w 0 := by
  rcases h with ⟨-, ⟨k, a1, a2, rfl⟩⟩ | ⟨-, rfl⟩
  · rfl
  · rfl
theorem st_rows {n : Nat} {z z1 : cZ} {w w2 : mW} {kd k r : Int32} {v : Int64} (hR : RI n z w) (hn : n < 512) (hc : cO_rows z kd k v z1) (hm : mO_rows w kd r w2) : RI (n + 1) z1 w2 := hR.st (z_rows hc hR.1) (w_rows hm hR.2.1) ((zk_rows hc).trans (hR.2.2.2.2.2.trans (wk_rows hm).symm))
theorem zk_rowName {z z1 : cZ} {kd ky k : Int32} {v : Int64} (h : cO_rowName z kd ky k v z1) : zN z1 0 = zN z 0 := by
  rcases h with ⟨-, ⟨r, -, k, a1, a2, a3, rfl⟩⟩ | ⟨-, rfl⟩
  · rfl
  · rfl
theorem wk_rowName {w w2 : mW} {kd ky r : Int32} (h : mO_rowName w kd ky r w2) : rdK w2 0 = rdK w 0 := by
  rcases h with ⟨-, ⟨k, j, a1, a2, a3, a4, rfl⟩⟩ | ⟨-, rfl⟩
  · rfl
  · rfl
theorem st_rowName {n : Nat} {z z1 : cZ} {w w2 : mW} {kd ky k r : Int32} {v : Int64} (hR : RI n z w) (hn : n < 512) (hc : cO_rowName z kd ky k v z1) (hm : mO_rowName w kd ky r w2) : RI (n + 1) z1 w2 := hR.st (z_rowName hc hR.1) (w_rowName hm hR.2.1) ((zk_rowName hc).trans (hR.2.2.2.2.2.trans (wk_rowName hm).symm))
theorem zk_rowReference {z z1 : cZ} {kd ky k : Int32} {v : Int64} (h : cO_rowReference z kd ky k v z1) : zN z1 0 = zN z 0 := by
  rcases h with ⟨-, ⟨r, -, k, a1, a2, a3, rfl⟩⟩ | ⟨-, rfl⟩
  · rfl
  · rfl
theorem wk_rowReference {w w2 : mW} {kd ky r : Int32} (h : mO_rowReference w kd ky r w2) : rdK w2 0 = rdK w 0 := by
  rcases h with ⟨-, ⟨k, j, a1, a2, a3, a4, rfl⟩⟩ | ⟨-, rfl⟩
  · rfl
  · rfl
theorem st_rowReference {n : Nat} {z z1 : cZ} {w w2 : mW} {kd ky k r : Int32} {v : Int64} (hR : RI n z w) (hn : n < 512) (hc : cO_rowReference z kd ky k v z1) (hm : mO_rowReference w kd ky r w2) : RI (n + 1) z1 w2 := hR.st (z_rowReference hc hR.1) (w_rowReference hm hR.2.1) ((zk_rowReference hc).trans (hR.2.2.2.2.2.trans (wk_rowReference hm).symm))
theorem zk_rowVersion {z z1 : cZ} {kd ky k : Int32} {v : Int64} (h : cO_rowVersion z kd ky k v z1) : zN z1 0 = zN z 0 := by
  rcases h with ⟨-, ⟨r, -, k, a1, a2, a3, rfl⟩⟩ | ⟨-, rfl⟩
  · rfl
  · rfl
theorem wk_rowVersion {w w2 : mW} {kd ky r : Int32} (h : mO_rowVersion w kd ky r w2) : rdK w2 0 = rdK w 0 := by
  rcases h with ⟨-, ⟨k, j, a1, a2, a3, a4, rfl⟩⟩ | ⟨-, rfl⟩
  · rfl
  · rfl
theorem st_rowVersion {n : Nat} {z z1 : cZ} {w w2 : mW} {kd ky k r : Int32} {v : Int64} (hR : RI n z w) (hn : n < 512) (hc : cO_rowVersion z kd ky k v z1) (hm : mO_rowVersion w kd ky r w2) : RI (n + 1) z1 w2 := hR.st (z_rowVersion hc hR.1) (w_rowVersion hm hR.2.1) ((zk_rowVersion hc).trans (hR.2.2.2.2.2.trans (wk_rowVersion hm).symm))
theorem zk_write {z z1 : cZ} {nu k : Int32} {v : Int64} (h : cO_write z nu k v z1) : zN z1 0 = zN z 0 := by
  rcases h with ⟨-, ⟨r, -, j, a1, a2, a3, rfl⟩⟩ | ⟨-, rfl⟩
  · rfl
  · rfl
theorem wk_write {w w2 : mW} {nu r : Int32} (h : mO_write w nu r w2) : rdK w2 0 = rdK w 0 := by
  rcases h with ⟨-, ⟨n9, a1, a2, a3, rfl⟩⟩ | ⟨-, rfl⟩
  · rfl
  · rfl
theorem st_write {n : Nat} {z z1 : cZ} {w w2 : mW} {nu k r : Int32} {v : Int64} (hR : RI n z w) (hn : n < 512) (hc : cO_write z nu k v z1) (hm : mO_write w nu r w2) : RI (n + 1) z1 w2 := hR.st (z_write hc hR.1) (w_write hm hR.2.1) ((zk_write hc).trans (hR.2.2.2.2.2.trans (wk_write hm).symm))
theorem zk_written {z z1 : cZ} {nu k : Int32} {v : Int64} (h : cO_written z nu k v z1) : zN z1 0 = zN z 0 := by
  rcases h with ⟨-, ⟨r, -, j, a1, a2, a3, rfl⟩⟩ | ⟨-, rfl⟩
  · rfl
  · rfl
theorem wk_written {w w2 : mW} {nu r : Int32} (h : mO_written w nu r w2) : rdK w2 0 = rdK w 0 := by
  rcases h with ⟨-, ⟨n9, a1, a2, a3, rfl⟩⟩ | ⟨-, rfl⟩
  · rfl
  · rfl
theorem st_written {n : Nat} {z z1 : cZ} {w w2 : mW} {nu k r : Int32} {v : Int64} (hR : RI n z w) (hn : n < 512) (hc : cO_written z nu k v z1) (hm : mO_written w nu r w2) : RI (n + 1) z1 w2 := hR.st (z_written hc hR.1) (w_written hm hR.2.1) ((zk_written hc).trans (hR.2.2.2.2.2.trans (wk_written hm).symm))
theorem st_makeAuthor {n : Nat} {z z1 : cZ} {w w2 : mW} {si nm k r : Int32} {v : Int64} (hR : RI n z w) (hn : n < 512) (hc : cO_makeAuthor z si nm k v z1) (hm : mO_makeAuthor w si nm r w2) : RI (n + 1) z1 w2 ∧ rdH w2 = k ∧ (k = 0 → v = r.toInt64) := by
  have hz := z_makeAuthor hc hR.1
  have hw := w_makeAuthor hm hR.2.1 (by have h9 := hR.2.2.2.1 0 (by decide); omega)
  have h0 := hR.2.2.2.2.2
  have hzn := hR.2.2.1 0 (by decide)
  rcases hc with ⟨rfl, r9, rfl, i, a1, a2, (⟨a3, rfl, rfl⟩ | ⟨a3, -, -⟩)⟩ | ⟨hx, rfl⟩
  · have hs : sOK si = true := by rw [a1.2]; exact sOK_nI a1.1
    rcases hm with ⟨-, i2, b1, b2, rfl, rfl⟩ | ⟨hne, -⟩
    · refine ⟨hR.st hz hw ?_, rfl, fun _ => by rw [h0]⟩
      rw [(kMk_N (by decide) 0 : zN (kMk i 0 nm (-1) z) 0 = _), if_pos (Or.inl rfl), h0]
      rfl
    · exact absurd (by simp [aMA, hs, a2]) hne
  · omega
  · rcases hx with ⟨rfl, hx⟩ | ⟨rfl, hx, hx2⟩
    · have hC : aMA si nm = 1 := by simp [aMA, hx]
      rcases hm with ⟨hm, -⟩ | ⟨-, rfl⟩
      · rw [hC] at hm
        exact absurd hm (by decide)
      · exact ⟨hR.st hz hw h0, hC, fun q => absurd q (by decide)⟩
    · have hC : aMA si nm = 2 := by simp [aMA, hx, hx2]
      rcases hm with ⟨hm, -⟩ | ⟨-, rfl⟩
      · rw [hC] at hm
        exact absurd hm (by decide)
      · exact ⟨hR.st hz hw h0, hC, fun q => absurd q (by decide)⟩
theorem st_writes {n : Nat} {z : cZ} {w w2 : mW} (hR : RI n z w) (hn : n < 512) (e : w2 = mH w 0) : RI (n + 1) z w2 ∧ True := by
  subst e
  exact ⟨hR.st (zSt.keep hR.1 rfl) (wSt.H hR.2.1 0) hR.2.2.2.2.2, trivial⟩
theorem st_none {n : Nat} {z : cZ} {w : mW} (hR : RI n z w) : RI (n + 1) z w := hR.st (zSt.keep hR.1 rfl) (wSt.keep hR.2.1 rfl (Nat.le_add_right _ _)) hR.2.2.2.2.2
theorem RI_0 {z : cZ} (hz : ∀ u, zN z u = 0) : RI 0 z w0M := ⟨fun i k _ _ => by rw [hz, hz], w0M_I, fun u _ => by rw [hz]; exact Nat.le_refl _, fun k _ => Nat.le_refl _, Nat.zero_le _, hz 0⟩
