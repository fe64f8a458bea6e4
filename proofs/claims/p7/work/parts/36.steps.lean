/-! THE REFERENCE, 2: steps of its state -/
def itm (F : Nat → mW → mW) : Nat → mW → mW
  | 0, w => w
  | n + 1, w => F n (itm F n w)
theorem itm_K {F : Nat → mW → mW} (h : ∀ j w, rdK (F j w) = rdK w) (n : Nat) (w : mW) : rdK (itm F n w) = rdK w := by
  induction n with
  | zero => rfl
  | succ n ih => exact (h n _).trans ih
theorem rdT_o {w : mW} {a p b : Nat} {v : Int32} (h : b ≠ a) : rdT (mS w a p v) b = rdT w b := up2_oth h
theorem sOK_i {si : Int32} (h : sOK si = true) : ∃ i : Nat, i < 3 ∧ si = nI i := by
  simp only [sOK, Bool.and_eq_true, Bool.not_eq_true', decide_eq_false_iff_not, decide_eq_true_eq] at h
  obtain ⟨i, h1, h2⟩ := nI_of h.1
  exact ⟨i, (nI_ltI h1 (by decide)).mp (by rw [← h2]; exact h.2), h2⟩
theorem MW.setH {G : gG} {M M1 : gM} {x : Nat} {ad : Nat → Nat} {w : mW} {v : Int32} (h : MW G M x ad w) (e : M1 = mu M x (oM v (nI (rdN w)) ad)) : MW G M1 x ad (mH w v) := by
  have t : ∀ b y, M b = some y → (∀ fs, y ≠ .inr (8, fs)) → M1 b = some y := fun b y hb hy => by
    rw [e]
    exact mu_g hb (gM_ne hb h.1 (hy _))
  exact ⟨by rw [e]; exact mu_s _ _ _, t _ _ h.a1 (by simp [oI]), t _ _ h.a2 (by simp [oI, oB]), t _ _ h.a3 (by simp [oI, oB]), t _ _ h.a4 (by simp [oI, oB]), t _ _ h.a5 (by simp [oI, oB]), t _ _ h.a6 (by simp [oI, oB]), t _ _ h.a7 (by simp [oI, oB]), t _ _ h.a8 (by simp [oI, oB]), t _ _ h.a9 (by simp [oI, oB]), t _ _ h.a10 (by simp [oI, oB]), t _ _ h.a11 (by simp [oI, oB]), t _ _ h.a12 (by simp [oI, oB]), t _ _ h.a13 (by simp [oI, oB]), t _ _ h.a15 (by simp [oI, oB]), h.dis, fun k hk => h.kb hk⟩
def mN (w : mW) (n : Nat) : mW := (rdK w, rdT w, n, rdH w)
theorem MW.setN {G : gG} {M M1 : gM} {x : Nat} {ad : Nat → Nat} {w : mW} {n : Nat} (h : MW G M x ad w) (e : M1 = mu M x (oM (rdH w) (nI n) ad)) : MW G M1 x ad (mN w n) := by
  have t : ∀ b y, M b = some y → (∀ fs, y ≠ .inr (8, fs)) → M1 b = some y := fun b y hb hy => by
    rw [e]
    exact mu_g hb (gM_ne hb h.1 (hy _))
  exact ⟨by rw [e]; exact mu_s _ _ _, t _ _ h.a1 (by simp [oI]), t _ _ h.a2 (by simp [oI, oB]), t _ _ h.a3 (by simp [oI, oB]), t _ _ h.a4 (by simp [oI, oB]), t _ _ h.a5 (by simp [oI, oB]), t _ _ h.a6 (by simp [oI, oB]), t _ _ h.a7 (by simp [oI, oB]), t _ _ h.a8 (by simp [oI, oB]), t _ _ h.a9 (by simp [oI, oB]), t _ _ h.a10 (by simp [oI, oB]), t _ _ h.a11 (by simp [oI, oB]), t _ _ h.a12 (by simp [oI, oB]), t _ _ h.a13 (by simp [oI, oB]), t _ _ h.a15 (by simp [oI, oB]), h.dis, fun k hk => h.kb hk⟩
def upK (f : Nat → Nat) (k n : Nat) : Nat → Nat := fun b => if b = k then n else f b
def mK (w : mW) (k n : Nat) : mW := (upK (rdK w) k n, rdT w, rdN w, rdH w)
theorem MW.setK {G : gG} {M M1 : gM} {x : Nat} {ad : Nat → Nat} {w : mW} {k n : Nat} (h : MW G M x ad w) (hn : n ≤ 1024) (e : M1 = mu M (ad 1) (.inl (G.2 0, 2, .inl (upd (fun k => nI (rdK w k)) k (nI n))))) : MW G M1 x ad (mK w k n) := by
  have t : ∀ a, 1 < a → a < 16 → a ≠ 14 → ∀ y, M (ad a) = some y → M1 (ad a) = some y := fun a h1 h2 h3 y hb => by
    rw [e]
    exact mu_g hb (fun r => absurd (h.dis a 1 (by omega) h2 (by omega) (by omega) h3 (by omega) r) (by omega))
  refine ⟨by rw [e]; exact mu_g h.1 (gM_ne h.1 h.a1 (by simp [oM])), ?_, t 2 (by decide) (by decide) (by decide) _ h.a2, t 3 (by decide) (by decide) (by decide) _ h.a3, t 4 (by decide) (by decide) (by decide) _ h.a4, t 5 (by decide) (by decide) (by decide) _ h.a5, t 6 (by decide) (by decide) (by decide) _ h.a6, t 7 (by decide) (by decide) (by decide) _ h.a7, t 8 (by decide) (by decide) (by decide) _ h.a8, t 9 (by decide) (by decide) (by decide) _ h.a9, t 10 (by decide) (by decide) (by decide) _ h.a10, t 11 (by decide) (by decide) (by decide) _ h.a11, t 12 (by decide) (by decide) (by decide) _ h.a12, t 13 (by decide) (by decide) (by decide) _ h.a13, t 15 (by decide) (by decide) (by decide) _ h.a15, h.dis, fun q hq => ?_⟩
  · rw [e, mu_s]
    refine congrArg (fun f : Nat → Int32 => some (oI G 2 f)) (funext fun b => ?_)
    show upd (fun k => nI (rdK w k)) k (nI n) b = nI (upK (rdK w) k n b)
    unfold upK
    by_cases hb : b = k
    · simp [upd, hb]
    · simp [upd, hb]
  · show upK (rdK w) k n q ≤ 1024
    unfold upK
    split
    · exact hn
    · exact h.kb hq
/-- the steps -/
def mTk (i k j : Nat) (w : mW) : mW := mS (mS (mS (mS (mS (mS (mS w 7 (aP i k j) 2) 8 (aP i k j) 0) 9 (aP i k j) (rdT w 3 (rP k j))) 10 (aP i k j) (rdT w 4 (rP k j))) 11 (aP i k j) (rdT w 3 (rP k j))) 12 (aP i k j) (rdT w 4 (rP k j))) 13 (aP i k j) (rdT w 5 (rP k j))
def mLd (i k : Nat) (t : Int32) (j : Nat) (w : mW) : mW := if ((mHr w k (nI j) && decide (rdT w 4 (rP k j) = t)) && decide (rdT w 7 (aP i k j) = 0)) = true then mTk i k j w else w
def mMk (i k : Nat) (nm rf : Int32) (w : mW) : mW := mS (mS (mS (mS (mK w k (rdK w k + 1)) 7 (aP i k (rdK w k)) 1) 8 (aP i k (rdK w k)) 0) 9 (aP i k (rdK w k)) nm) 10 (aP i k (rdK w k)) rf
def mGo (i k j : Nat) (w : mW) : mW := mS (mS w 8 (aP i k j) (bI (decide (rdT w 7 (aP i k j) = 2)))) 7 (aP i k j) (if rdT w 7 (aP i k j) = 2 then 2 else 0)
def mCl (i : Nat) (t : Int32) (j : Nat) (w : mW) : mW := mS w 10 (aP i 0 j) (if (mKn w i 0 (nI j) && decide (rdT w 10 (aP i 0 j) = t)) = true then -1 else rdT w 10 (aP i 0 j))
def mRmB (i : Nat) (b : Nat) (w : mW) : mW := itm (mCl i (nI b)) (rdK w 0) (itm (mLd i 0 (nI b)) (rdK w 0) (mGo i 1 b w))
def mRb (i : Nat) (t : Int32) (j : Nat) (w : mW) : mW := if (mKn w i 1 (nI j) && decide (rdT w 10 (aP i 1 j) = t)) = true then mRmB i j w else w
def mNo (ac : Nat) (k j : Nat) (w : mW) : mW := mN (mS w 15 (rdN w % 16384) (nI (4096 * ac + 2 * j + k))) (rdN w + 1)
theorem mTk_K (i k j : Nat) (w : mW) : rdK (mTk i k j w) = rdK w := rfl
theorem mLd_K (i k : Nat) (t : Int32) (j : Nat) (w : mW) : rdK (mLd i k t j w) = rdK w := by
  unfold mLd
  split <;> rfl
theorem mGo_K (i k j : Nat) (w : mW) : rdK (mGo i k j w) = rdK w := rfl
theorem mCl_K (i : Nat) (t : Int32) (j : Nat) (w : mW) : rdK (mCl i t j w) = rdK w := rfl
theorem mRmB_K (i b : Nat) (w : mW) : rdK (mRmB i b w) = rdK w := (itm_K (mCl_K i (nI b)) _ _).trans (itm_K (mLd_K i 0 (nI b)) _ _)
theorem mRb_K (i : Nat) (t : Int32) (j : Nat) (w : mW) : rdK (mRb i t j w) = rdK w := by
  unfold mRb
  split
  · exact mRmB_K i j w
  · rfl
theorem cnt_p {p : Nat → Bool} {s j : Nat} : nI (s + cnt p j) + bI (p j) = nI (s + cnt p (j + 1)) := by
  show _ = nI (s + (cnt p j + if p j = true then 1 else 0))
  cases p j
  · exact nI_add _ 0
  · exact nI_add _ 1
set_option maxHeartbeats 4000000 in
set_option maxRecDepth 100000 in
theorem c_takes (l : Launch) (G : gG) (dce sz : Nat) (M : gM) (x : Nat) (ad : Nat → Nat) (w : mW) (hm : MW G M x ad w) (i k j : Nat) (hi : i < 3) (hk2 : k < 2) (hj2 : j < 1024) : mV l yX7_takes wsX7_takes ({ frames := 1, cells := 0, slots := 0, locals := 22 }) G dce sz M [.ref x, .int (nI i), .int (nI k), .int (nI j)] (fun M' => MW G M' x ad (mTk i k j w) ∧ mFr x ad M M') (0) (0) := by
  have hx0 : M x = some (.inr (8, [.int (rdH w), .ref (ad 1), .ref (ad 2), .ref (ad 3), .ref (ad 4), .ref (ad 5), .ref (ad 6), .ref (ad 7), .ref (ad 8), .ref (ad 9), .ref (ad 10), .ref (ad 11), .ref (ad 12), .ref (ad 13), .int (nI (rdN w)), .ref (ad 15)])) := hm.1
  refine wMet (Qc := QV G _) (cc := cX7_takes) (maxL := 6) (ret := none) (by decide) rfl (Nat.le_of_ble_eq_true rfl) ?_
  intro p e s m below meth c A ls X hnm hw hK hZ hA hS hsz eA hl
  obtain ⟨hx, hb, hr, hts, hown, hlk, hml⟩ := id X
  have hl : lv_has ls 6 [(0, .ref x), (1, .int (nI i)), (2, .int (nI k)), (3, .int (nI j))] := hl
  have iX7 : ∀ w ∈ wsX70, w ∈ wsX7_takes := by decide +kernel
  refine lv_iload_n hx hb dX7_takes_0 rfl (lv_at hl 1 rfl) ?_
  refine lv_iload_n hx hb dX7_takes_1 rfl (lv_at hl 2 rfl) ?_
  refine lv_iload_n hx hb dX7_takes_2 rfl (lv_at hl 3 rfl) ?_
  refine m_callSi X hK hw hZ hS hA (As := [.int (nI i), .int (nI k), .int (nI j)]) (rest := []) (c_atK l G dce _ M i k j (nI i) rfl (nI k) rfl (nI j) rfl) (va_cwS 3 hts gX7_takes_X7_at rfl rfl rfl (by decide +kernel) ⟨Nat.le_of_ble_eq_true rfl, Nat.le_of_ble_eq_true rfl⟩) rfl hl.1 rfl (Nat.le_of_ble_eq_true rfl) dX7_takes_3 (Nat.le_of_ble_eq_true rfl) (Nat.le_of_ble_eq_true rfl) (fun r2 M1 H locs hp hw hS hz hk => ?_)
  rw [hp.2] at hw
  rw [hp.1]
  refine lv_istore (lv' := [(4, .int (nI (aP i k j))), (0, .ref x), (1, .int (nI i)), (2, .int (nI k)), (3, .int (nI j))]) hx hb dX7_takes_6 hl (by decide) rfl (fun ls hl => ?_)
  refine lv_iload_n hx hb dX7_takes_8 rfl (lv_at hl 3 rfl) ?_
  refine lv_iload_n hx hb dX7_takes_9 rfl (lv_at hl 4 rfl) ?_
  refine m_callSi X hK hw hZ hS hA (As := [.int (nI k), .int (nI j)]) (rest := []) (c_rowK l G dce _ M k j (nI k) rfl (nI j) rfl) (va_cwS 2 hts gX7_takes_X7_row rfl rfl rfl (by decide +kernel) ⟨Nat.le_of_ble_eq_true rfl, Nat.le_of_ble_eq_true rfl⟩) rfl hl.1 rfl (Nat.le_of_ble_eq_true rfl) dX7_takes_10 (Nat.le_of_ble_eq_true rfl) (Nat.le_of_ble_eq_true rfl) (fun r4 M3 H locs hp hw hS hz hk => ?_)
  rw [hp.2] at hw
  rw [hp.1]
  refine lv_istore (lv' := [(5, .int (nI (rP k j))), (4, .int (nI (aP i k j))), (0, .ref x), (1, .int (nI i)), (2, .int (nI k)), (3, .int (nI j))]) hx hb dX7_takes_13 hl (by decide) rfl (fun ls hl => ?_)
  refine lv_aload_n hx hb dX7_takes_15 rfl (lv_at hl 2 rfl) ?_
  refine m_get X iX7 hK hw hx0 rfl 7 (by decide) (ref := "ObjectMapperModel") (by decide +kernel) (Or.inl rfl) rfl dX7_takes_16 ?_
  refine lv_iload hx hb dX7_takes_19 (lv_at hl 1 rfl) ?_
  refine lv_iconst (v := 2) hx hb dX7_takes_21 (by decide) ?_
  have ix6 : ((nI (aP i k j)) : Int32) = nI (aP i k j) := rfl
  have ix6b : (aP i k j) < 6144 := (aP_lt hi hk2 hj2)
  refine m_iast X hK hw hS (hm.a7) (i := (nI (aP i k j))) (x := 2) (by rw [ix6]; exact vp_in_nI ix6b (by decide)) dX7_takes_22 (fun M5 H locs eM5 hw hS => ?_)
  rw [show ((nI (aP i k j)) : Int32).toNatClampNeg = (aP i k j) from by rw [ix6]; exact nI_clamp (by omega)] at eM5
  obtain ⟨wt7, ewt7⟩ : ∃ w9, w9 = mS w 7 (aP i k j) 2 := ⟨_, rfl⟩
  have hmt7 : MW G M5 x ad wt7 := by rw [ewt7]; exact hm.set7 eM5
  have frt7 := mFr.tr mFr.rf (mFr.wr (x := x) (ad := ad) (a := 7) (by decide) eM5)
  have hxt7 : M5 x = some (.inr (8, [.int (rdH wt7), .ref (ad 1), .ref (ad 2), .ref (ad 3), .ref (ad 4), .ref (ad 5), .ref (ad 6), .ref (ad 7), .ref (ad 8), .ref (ad 9), .ref (ad 10), .ref (ad 11), .ref (ad 12), .ref (ad 13), .int (nI (rdN wt7)), .ref (ad 15)])) := hmt7.1
  refine lv_aload_n hx hb dX7_takes_23 rfl (lv_at hl 2 rfl) ?_
  refine m_get X iX7 hK hw hxt7 rfl 8 (by decide) (ref := "ObjectMapperModel") (by decide +kernel) (Or.inl rfl) rfl dX7_takes_24 ?_
  refine lv_iload hx hb dX7_takes_27 (lv_at hl 1 rfl) ?_
  refine lv_iconst (v := 0) hx hb dX7_takes_29 (by decide) ?_
  have ix9 : ((nI (aP i k j)) : Int32) = nI (aP i k j) := rfl
  have ix9b : (aP i k j) < 6144 := (aP_lt hi hk2 hj2)
  refine m_zast X hK hw hS (hmt7.a8) (i := (nI (aP i k j))) (x := 0) (by decide) (by rw [ix9]; exact vp_in_nI ix9b (by decide)) dX7_takes_30 (fun M8 H locs eM8 hw hS => ?_)
  rw [show ((nI (aP i k j)) : Int32).toNatClampNeg = (aP i k j) from by rw [ix9]; exact nI_clamp (by omega)] at eM8
  obtain ⟨wt10, ewt10⟩ : ∃ w9, w9 = mS wt7 8 (aP i k j) 0 := ⟨_, rfl⟩
  have hmt10 : MW G M8 x ad wt10 := by rw [ewt10]; exact hmt7.set8 eM8
  have frt10 := mFr.tr frt7 (mFr.wr (x := x) (ad := ad) (a := 8) (by decide) eM8)
  have hxt10 : M8 x = some (.inr (8, [.int (rdH wt10), .ref (ad 1), .ref (ad 2), .ref (ad 3), .ref (ad 4), .ref (ad 5), .ref (ad 6), .ref (ad 7), .ref (ad 8), .ref (ad 9), .ref (ad 10), .ref (ad 11), .ref (ad 12), .ref (ad 13), .int (nI (rdN wt10)), .ref (ad 15)])) := hmt10.1
  refine lv_aload_n hx hb dX7_takes_31 rfl (lv_at hl 2 rfl) ?_
  refine m_get X iX7 hK hw hxt10 rfl 9 (by decide) (ref := "ObjectMapperModel") (by decide +kernel) (Or.inl rfl) rfl dX7_takes_32 ?_
  refine lv_iload hx hb dX7_takes_35 (lv_at hl 1 rfl) ?_
  refine lv_aload_n hx hb dX7_takes_37 rfl (lv_at hl 2 rfl) ?_
  refine m_get X iX7 hK hw hxt10 rfl 3 (by decide) (ref := "ObjectMapperModel") (by decide +kernel) (Or.inl rfl) rfl dX7_takes_38 ?_
  refine lv_iload hx hb dX7_takes_41 (lv_at hl 0 rfl) ?_
  have ix11 : ((nI (rP k j)) : Int32) = nI (rP k j) := rfl
  have ix11b : (rP k j) < 2048 := (rP_lt hk2 hj2)
  refine m_iald X hK hw (hmt10.a3) (i := (nI (rP k j))) (by rw [ix11]; exact vp_in_nI ix11b (by decide)) dX7_takes_43 ?_
  rw [show ((nI (rP k j)) : Int32).toNatClampNeg = (rP k j) from by rw [ix11]; exact nI_clamp (by omega)]
  rw [show rdT wt10 3 = rdT w 3 from by rw [ewt10, rdT_o (by decide), ewt7, rdT_o (by decide)]]
  have ix13 : ((nI (aP i k j)) : Int32) = nI (aP i k j) := rfl
  have ix13b : (aP i k j) < 6144 := (aP_lt hi hk2 hj2)
  refine m_iast X hK hw hS (hmt10.a9) (i := (nI (aP i k j))) (x := (rdT w 3 (rP k j))) (by rw [ix13]; exact vp_in_nI ix13b (by decide)) dX7_takes_44 (fun M12 H locs eM12 hw hS => ?_)
  rw [show ((nI (aP i k j)) : Int32).toNatClampNeg = (aP i k j) from by rw [ix13]; exact nI_clamp (by omega)] at eM12
  obtain ⟨wt14, ewt14⟩ : ∃ w9, w9 = mS wt10 9 (aP i k j) (rdT w 3 (rP k j)) := ⟨_, rfl⟩
  have hmt14 : MW G M12 x ad wt14 := by rw [ewt14]; exact hmt10.set9 eM12
  have frt14 := mFr.tr frt10 (mFr.wr (x := x) (ad := ad) (a := 9) (by decide) eM12)
  have hxt14 : M12 x = some (.inr (8, [.int (rdH wt14), .ref (ad 1), .ref (ad 2), .ref (ad 3), .ref (ad 4), .ref (ad 5), .ref (ad 6), .ref (ad 7), .ref (ad 8), .ref (ad 9), .ref (ad 10), .ref (ad 11), .ref (ad 12), .ref (ad 13), .int (nI (rdN wt14)), .ref (ad 15)])) := hmt14.1
  refine lv_aload_n hx hb dX7_takes_45 rfl (lv_at hl 2 rfl) ?_
  refine m_get X iX7 hK hw hxt14 rfl 10 (by decide) (ref := "ObjectMapperModel") (by decide +kernel) (Or.inl rfl) rfl dX7_takes_46 ?_
  refine lv_iload hx hb dX7_takes_49 (lv_at hl 1 rfl) ?_
  refine lv_aload_n hx hb dX7_takes_51 rfl (lv_at hl 2 rfl) ?_
  refine m_get X iX7 hK hw hxt14 rfl 4 (by decide) (ref := "ObjectMapperModel") (by decide +kernel) (Or.inl rfl) rfl dX7_takes_52 ?_
  refine lv_iload hx hb dX7_takes_55 (lv_at hl 0 rfl) ?_
  have ix15 : ((nI (rP k j)) : Int32) = nI (rP k j) := rfl
  have ix15b : (rP k j) < 2048 := (rP_lt hk2 hj2)
  refine m_iald X hK hw (hmt14.a4) (i := (nI (rP k j))) (by rw [ix15]; exact vp_in_nI ix15b (by decide)) dX7_takes_57 ?_
  rw [show ((nI (rP k j)) : Int32).toNatClampNeg = (rP k j) from by rw [ix15]; exact nI_clamp (by omega)]
  rw [show rdT wt14 4 = rdT w 4 from by rw [ewt14, rdT_o (by decide), ewt10, rdT_o (by decide), ewt7, rdT_o (by decide)]]
  have ix17 : ((nI (aP i k j)) : Int32) = nI (aP i k j) := rfl
  have ix17b : (aP i k j) < 6144 := (aP_lt hi hk2 hj2)
  refine m_iast X hK hw hS (hmt14.a10) (i := (nI (aP i k j))) (x := (rdT w 4 (rP k j))) (by rw [ix17]; exact vp_in_nI ix17b (by decide)) dX7_takes_58 (fun M16 H locs eM16 hw hS => ?_)
  rw [show ((nI (aP i k j)) : Int32).toNatClampNeg = (aP i k j) from by rw [ix17]; exact nI_clamp (by omega)] at eM16
  obtain ⟨wt18, ewt18⟩ : ∃ w9, w9 = mS wt14 10 (aP i k j) (rdT w 4 (rP k j)) := ⟨_, rfl⟩
  have hmt18 : MW G M16 x ad wt18 := by rw [ewt18]; exact hmt14.set10 eM16
  have frt18 := mFr.tr frt14 (mFr.wr (x := x) (ad := ad) (a := 10) (by decide) eM16)
  have hxt18 : M16 x = some (.inr (8, [.int (rdH wt18), .ref (ad 1), .ref (ad 2), .ref (ad 3), .ref (ad 4), .ref (ad 5), .ref (ad 6), .ref (ad 7), .ref (ad 8), .ref (ad 9), .ref (ad 10), .ref (ad 11), .ref (ad 12), .ref (ad 13), .int (nI (rdN wt18)), .ref (ad 15)])) := hmt18.1
  refine lv_aload_n hx hb dX7_takes_59 rfl (lv_at hl 2 rfl) ?_
  refine m_get X iX7 hK hw hxt18 rfl 11 (by decide) (ref := "ObjectMapperModel") (by decide +kernel) (Or.inl rfl) rfl dX7_takes_60 ?_
  refine lv_iload hx hb dX7_takes_63 (lv_at hl 1 rfl) ?_
  refine lv_aload_n hx hb dX7_takes_65 rfl (lv_at hl 2 rfl) ?_
  refine m_get X iX7 hK hw hxt18 rfl 3 (by decide) (ref := "ObjectMapperModel") (by decide +kernel) (Or.inl rfl) rfl dX7_takes_66 ?_
  refine lv_iload hx hb dX7_takes_69 (lv_at hl 0 rfl) ?_
  have ix19 : ((nI (rP k j)) : Int32) = nI (rP k j) := rfl
  have ix19b : (rP k j) < 2048 := (rP_lt hk2 hj2)
  refine m_iald X hK hw (hmt18.a3) (i := (nI (rP k j))) (by rw [ix19]; exact vp_in_nI ix19b (by decide)) dX7_takes_71 ?_
  rw [show ((nI (rP k j)) : Int32).toNatClampNeg = (rP k j) from by rw [ix19]; exact nI_clamp (by omega)]
  rw [show rdT wt18 3 = rdT w 3 from by rw [ewt18, rdT_o (by decide), ewt14, rdT_o (by decide), ewt10, rdT_o (by decide), ewt7, rdT_o (by decide)]]
  have ix21 : ((nI (aP i k j)) : Int32) = nI (aP i k j) := rfl
  have ix21b : (aP i k j) < 6144 := (aP_lt hi hk2 hj2)
  refine m_iast X hK hw hS (hmt18.a11) (i := (nI (aP i k j))) (x := (rdT w 3 (rP k j))) (by rw [ix21]; exact vp_in_nI ix21b (by decide)) dX7_takes_72 (fun M20 H locs eM20 hw hS => ?_)
  rw [show ((nI (aP i k j)) : Int32).toNatClampNeg = (aP i k j) from by rw [ix21]; exact nI_clamp (by omega)] at eM20
  obtain ⟨wt22, ewt22⟩ : ∃ w9, w9 = mS wt18 11 (aP i k j) (rdT w 3 (rP k j)) := ⟨_, rfl⟩
  have hmt22 : MW G M20 x ad wt22 := by rw [ewt22]; exact hmt18.set11 eM20
  have frt22 := mFr.tr frt18 (mFr.wr (x := x) (ad := ad) (a := 11) (by decide) eM20)
  have hxt22 : M20 x = some (.inr (8, [.int (rdH wt22), .ref (ad 1), .ref (ad 2), .ref (ad 3), .ref (ad 4), .ref (ad 5), .ref (ad 6), .ref (ad 7), .ref (ad 8), .ref (ad 9), .ref (ad 10), .ref (ad 11), .ref (ad 12), .ref (ad 13), .int (nI (rdN wt22)), .ref (ad 15)])) := hmt22.1
  refine lv_aload_n hx hb dX7_takes_73 rfl (lv_at hl 2 rfl) ?_
  refine m_get X iX7 hK hw hxt22 rfl 12 (by decide) (ref := "ObjectMapperModel") (by decide +kernel) (Or.inl rfl) rfl dX7_takes_74 ?_
  refine lv_iload hx hb dX7_takes_77 (lv_at hl 1 rfl) ?_
  refine lv_aload_n hx hb dX7_takes_79 rfl (lv_at hl 2 rfl) ?_
  refine m_get X iX7 hK hw hxt22 rfl 4 (by decide) (ref := "ObjectMapperModel") (by decide +kernel) (Or.inl rfl) rfl dX7_takes_80 ?_
  refine lv_iload hx hb dX7_takes_83 (lv_at hl 0 rfl) ?_
  have ix23 : ((nI (rP k j)) : Int32) = nI (rP k j) := rfl
  have ix23b : (rP k j) < 2048 := (rP_lt hk2 hj2)
  refine m_iald X hK hw (hmt22.a4) (i := (nI (rP k j))) (by rw [ix23]; exact vp_in_nI ix23b (by decide)) dX7_takes_85 ?_
  rw [show ((nI (rP k j)) : Int32).toNatClampNeg = (rP k j) from by rw [ix23]; exact nI_clamp (by omega)]
  rw [show rdT wt22 4 = rdT w 4 from by rw [ewt22, rdT_o (by decide), ewt18, rdT_o (by decide), ewt14, rdT_o (by decide), ewt10, rdT_o (by decide), ewt7, rdT_o (by decide)]]
  have ix25 : ((nI (aP i k j)) : Int32) = nI (aP i k j) := rfl
  have ix25b : (aP i k j) < 6144 := (aP_lt hi hk2 hj2)
  refine m_iast X hK hw hS (hmt22.a12) (i := (nI (aP i k j))) (x := (rdT w 4 (rP k j))) (by rw [ix25]; exact vp_in_nI ix25b (by decide)) dX7_takes_86 (fun M24 H locs eM24 hw hS => ?_)
  rw [show ((nI (aP i k j)) : Int32).toNatClampNeg = (aP i k j) from by rw [ix25]; exact nI_clamp (by omega)] at eM24
  obtain ⟨wt26, ewt26⟩ : ∃ w9, w9 = mS wt22 12 (aP i k j) (rdT w 4 (rP k j)) := ⟨_, rfl⟩
  have hmt26 : MW G M24 x ad wt26 := by rw [ewt26]; exact hmt22.set12 eM24
  have frt26 := mFr.tr frt22 (mFr.wr (x := x) (ad := ad) (a := 12) (by decide) eM24)
  have hxt26 : M24 x = some (.inr (8, [.int (rdH wt26), .ref (ad 1), .ref (ad 2), .ref (ad 3), .ref (ad 4), .ref (ad 5), .ref (ad 6), .ref (ad 7), .ref (ad 8), .ref (ad 9), .ref (ad 10), .ref (ad 11), .ref (ad 12), .ref (ad 13), .int (nI (rdN wt26)), .ref (ad 15)])) := hmt26.1
  refine lv_aload_n hx hb dX7_takes_87 rfl (lv_at hl 2 rfl) ?_
  refine m_get X iX7 hK hw hxt26 rfl 13 (by decide) (ref := "ObjectMapperModel") (by decide +kernel) (Or.inl rfl) rfl dX7_takes_88 ?_
  refine lv_iload hx hb dX7_takes_91 (lv_at hl 1 rfl) ?_
  refine lv_aload_n hx hb dX7_takes_93 rfl (lv_at hl 2 rfl) ?_
  refine m_get X iX7 hK hw hxt26 rfl 5 (by decide) (ref := "ObjectMapperModel") (by decide +kernel) (Or.inl rfl) rfl dX7_takes_94 ?_
  refine lv_iload hx hb dX7_takes_97 (lv_at hl 0 rfl) ?_
  have ix27 : ((nI (rP k j)) : Int32) = nI (rP k j) := rfl
  have ix27b : (rP k j) < 2048 := (rP_lt hk2 hj2)
  refine m_iald X hK hw (hmt26.a5) (i := (nI (rP k j))) (by rw [ix27]; exact vp_in_nI ix27b (by decide)) dX7_takes_99 ?_
  rw [show ((nI (rP k j)) : Int32).toNatClampNeg = (rP k j) from by rw [ix27]; exact nI_clamp (by omega)]
  rw [show rdT wt26 5 = rdT w 5 from by rw [ewt26, rdT_o (by decide), ewt22, rdT_o (by decide), ewt18, rdT_o (by decide), ewt14, rdT_o (by decide), ewt10, rdT_o (by decide), ewt7, rdT_o (by decide)]]
  have ix29 : ((nI (aP i k j)) : Int32) = nI (aP i k j) := rfl
  have ix29b : (aP i k j) < 6144 := (aP_lt hi hk2 hj2)
  refine m_iast X hK hw hS (hmt26.a13) (i := (nI (aP i k j))) (x := (rdT w 5 (rP k j))) (by rw [ix29]; exact vp_in_nI ix29b (by decide)) dX7_takes_100 (fun M28 H locs eM28 hw hS => ?_)
  rw [show ((nI (aP i k j)) : Int32).toNatClampNeg = (aP i k j) from by rw [ix29]; exact nI_clamp (by omega)] at eM28
  obtain ⟨wt30, ewt30⟩ : ∃ w9, w9 = mS wt26 13 (aP i k j) (rdT w 5 (rP k j)) := ⟨_, rfl⟩
  have hmt30 : MW G M28 x ad wt30 := by rw [ewt30]; exact hmt26.set13 eM28
  have frt30 := mFr.tr frt26 (mFr.wr (x := x) (ad := ad) (a := 13) (by decide) eM28)
  have hxt30 : M28 x = some (.inr (8, [.int (rdH wt30), .ref (ad 1), .ref (ad 2), .ref (ad 3), .ref (ad 4), .ref (ad 5), .ref (ad 6), .ref (ad 7), .ref (ad 8), .ref (ad 9), .ref (ad 10), .ref (ad 11), .ref (ad 12), .ref (ad 13), .int (nI (rdN wt30)), .ref (ad 15)])) := hmt30.1
  have hfin : mTk i k j w = wt30 := by rw [ewt30, ewt26, ewt22, ewt18, ewt14, ewt10, ewt7]; first | rfl | simp [mTk]
  exact m_vret X hK hw hS ⟨by rw [hfin]; exact hmt30, frt30⟩ (by omega) (by omega) dX7_takes_101
theorem c_takesK (l : Launch) (G : gG) (dce sz : Nat) (M : gM) (x : Nat) (ad : Nat → Nat) (w : mW) (hm : MW G M x ad w) (i k j : Nat) (hi : i < 3) (hk2 : k < 2) (hj2 : j < 1024) (si : Int32) (hsi : si = nI i) (kd : Int32) (hkd : kd = nI k) : mV l yX7_takes wsX7_takes ({ frames := 1, cells := 0, slots := 0, locals := 22 }) G dce sz M [.ref x, .int si, .int kd, .int (nI j)] (fun M' => MW G M' x ad (mTk i k j w) ∧ mFr x ad M M') (0) (0) := by
  subst hsi
  subst hkd
  exact c_takes l G dce sz M x ad w hm i k j hi hk2 hj2
set_option maxHeartbeats 4000000 in
set_option maxRecDepth 100000 in
theorem c_loads (l : Launch) (G : gG) (dce sz : Nat) (M : gM) (x : Nat) (ad : Nat → Nat) (w : mW) (hm : MW G M x ad w) (i k : Nat) (hi : i < 3) (hk2 : k < 2) (t : Int32) : mV l yX7_loads wsX7_loads ({ frames := 2, cells := 0, slots := 0, locals := 47 }) G dce sz M [.ref x, .int (nI i), .int (nI k), .int t] (fun M' => MW G M' x ad (itm (mLd i k t) (rdK w k) w) ∧ mFr x ad M M') (0) (0) := by
  have hx0 : M x = some (.inr (8, [.int (rdH w), .ref (ad 1), .ref (ad 2), .ref (ad 3), .ref (ad 4), .ref (ad 5), .ref (ad 6), .ref (ad 7), .ref (ad 8), .ref (ad 9), .ref (ad 10), .ref (ad 11), .ref (ad 12), .ref (ad 13), .int (nI (rdN w)), .ref (ad 15)])) := hm.1
  refine wMet (Qc := QV G _) (cc := cX7_loads) (maxL := 6) (ret := none) (by decide) rfl (Nat.le_of_ble_eq_true rfl) ?_
  intro p e s m below meth c A ls X hnm hw hK hZ hA hS hsz eA hl
  obtain ⟨hx, hb, hr, hts, hown, hlk, hml⟩ := id X
  have hl : lv_has ls 6 [(0, .ref x), (1, .int (nI i)), (2, .int (nI k)), (3, .int t)] := hl
  have iX7 : ∀ w ∈ wsX70, w ∈ wsX7_loads := by decide +kernel
  refine lv_iconst (v := 0) hx hb dX7_loads_0 (by decide) ?_
  refine lv_istore (lv' := [(4, .int (nI 0)), (0, .ref x), (1, .int (nI i)), (2, .int (nI k)), (3, .int t)]) hx hb dX7_loads_1 hl (by decide) rfl (fun ls hl => ?_)
  have loopa : ∀ (d : Nat) (ja : Nat) (wa : mW) (Ma : gM) (H : Heap) (locs : List Loc) (ls : Array Slot), ja ≤ rdK w k → rdK w k + 1 ≤ ja + d → wa = itm (mLd i k t) ja w → MW G Ma x ad wa → mFr x ad M Ma → wd G A Ma H → va_S A s.heap H locs → lv_has ls 6 [(4, .int (nI ja)), (0, .ref x), (1, .int (nI i)), (2, .int (nI k)), (3, .int t)] → W p l e ({ frames := 2, cells := 0, slots := 0, locals := 47 }) s m [.ref x, .int (nI i), .int (nI k), .int t].toArray below meth c H locs (0) (0) (MQ below (QV G (fun M' => MW G M' x ad (itm (mLd i k t) (rdK w k) w) ∧ mFr x ad M M') A) [.ref x, .int (nI i), .int (nI k), .int t].toArray s (0) (0) A) (F0 m 3 ls []) := by
    intro d
    induction d with
    | zero => intro ja wa Ma H locs ls h1 h2; exact absurd h2 (by omega)
    | succ d ih =>
      intro ja wa Ma H locs ls hja1 hja2 hza hma hfa hw hS hl
      have hxla : Ma x = some (.inr (8, [.int (rdH wa), .ref (ad 1), .ref (ad 2), .ref (ad 3), .ref (ad 4), .ref (ad 5), .ref (ad 6), .ref (ad 7), .ref (ad 8), .ref (ad 9), .ref (ad 10), .ref (ad 11), .ref (ad 12), .ref (ad 13), .int (nI (rdN wa)), .ref (ad 15)])) := hma.1
      have hna : rdK wa = rdK w := by rw [hza]; exact itm_K (mLd_K i k t) ja w
      have hba : rdK w k ≤ 1024 := hm.kb hk2
      refine lv_iload hx hb dX7_loads_3 (lv_at hl 0 rfl) ?_
      refine lv_aload_n hx hb dX7_loads_5 rfl (lv_at hl 1 rfl) ?_
      refine m_get X iX7 hK hw hxla rfl 1 (by decide) (ref := "ObjectMapperModel") (by decide +kernel) (Or.inl rfl) rfl dX7_loads_6 ?_
      refine lv_iload_n hx hb dX7_loads_9 rfl (lv_at hl 3 rfl) ?_
      have ix1 : ((nI k) : Int32) = nI k := rfl
      have ix1b : k < 2 := hk2
      refine m_iald X hK hw (hma.a1) (i := (nI k)) (by rw [ix1]; exact vp_in_nI ix1b (by decide)) dX7_loads_10 ?_
      rw [show ((nI k) : Int32).toNatClampNeg = k from by rw [ix1]; exact nI_clamp (by omega)]
      rw [show nI (rdK wa k) = nI (rdK w k) from by rw [hna]]
      refine lv_icmp_ge (tgt := 80) hx hb dX7_loads_11 (by decide) (fun c_11 => ?_) (fun c_11 => ?_)
      · have hkna : rdK w k ≤ ja := (nI_leI (by omega) (by omega)).mp c_11
        have hjja : ja = rdK w k := by omega
        rw [hjja] at hza
        exact m_vret X hK hw hS ⟨by rw [← hza]; exact hma, hfa⟩ (by omega) (by omega) dX7_loads_80
      · have hkla : ja < rdK w k := Nat.lt_of_not_le (fun q => c_11 (nI_le q (by omega)))
        have hj9a : ja < 1024 := by omega
        have hkwa : ja < rdK wa k := by rw [hna]; exact hkla
        have jn14_q2 : ∀ (v : Int32) (H : Heap) (locs : List Loc), v = bI (mHr wa k (nI ja) && decide (rdT wa 4 (rP k ja) = t)) → wd G A Ma H → va_S A s.heap H locs → W p l e ({ frames := 2, cells := 0, slots := 0, locals := 47 }) s m [.ref x, .int (nI i), .int (nI k), .int t].toArray below meth c H locs (0) (0) (MQ below (QV G (fun M' => MW G M' x ad (itm (mLd i k t) (rdK w k) w) ∧ mFr x ad M M') A) [.ref x, .int (nI i), .int (nI k), .int t].toArray s (0) (0) A) (F0 m 44 ls [(.int v)]) := by
          intro v H locs hv9 hw hS
          rw [hv9]
          refine lv_istore (lv' := [(5, .int (bI (mHr wa k (nI ja) && decide (rdT wa 4 (rP k ja) = t)))), (4, .int (nI ja)), (0, .ref x), (1, .int (nI i)), (2, .int (nI k)), (3, .int t)]) hx hb dX7_loads_44 hl (by decide) rfl (fun ls hl => ?_)
          refine lv_iload hx hb dX7_loads_46 (lv_at hl 0 rfl) ?_
          refine lv_if_eq (tgt := 74) hx hb dX7_loads_48 (by decide) (fun c_48 => ?_) (fun c_48 => ?_)
          · refine lv_iinc (v := (nI (ja + 1))) (lv' := [(4, .int (nI (ja + 1))), (5, .int (bI (mHr wa k (nI ja) && decide (rdT wa 4 (rP k ja) = t)))), (0, .ref x), (1, .int (nI i)), (2, .int (nI k)), (3, .int t)]) hx hb dX7_loads_74 hl (k := 1) rfl (nI_1 _) (by decide) rfl (fun ls hl => ?_)
            refine lv_goto (tgt := 3) hx hb dX7_loads_77 (by decide) ?_
            have hza2 : wa = itm (mLd i k t) (ja + 1) w := by
              show _ = (mLd i k t) ja (itm (mLd i k t) ja w)
              rw [← hza]
              unfold mLd
              rw [if_neg (by simp [((bI_0 _).mp c_48)])]
            exact ih (ja + 1) wa Ma H locs ls (by omega) (by omega) hza2 hma hfa hw hS (lv_sub hl [0, 2, 3, 4, 5] rfl)
          · refine lv_aload_n hx hb dX7_loads_51 rfl (lv_at hl 2 rfl) ?_
            refine m_get X iX7 hK hw hxla rfl 7 (by decide) (ref := "ObjectMapperModel") (by decide +kernel) (Or.inl rfl) rfl dX7_loads_52 ?_
            refine lv_iload_n hx hb dX7_loads_55 rfl (lv_at hl 3 rfl) ?_
            refine lv_iload_n hx hb dX7_loads_56 rfl (lv_at hl 4 rfl) ?_
            refine lv_iload hx hb dX7_loads_57 (lv_at hl 1 rfl) ?_
            refine m_callSi X hK hw hZ hS hA (As := [.int (nI i), .int (nI k), .int (nI ja)]) (rest := [.ref (ad 7)]) (c_atK l G dce _ Ma i k ja (nI i) rfl (nI k) rfl (nI ja) rfl) (va_cwS 3 hts gX7_loads_X7_at rfl rfl rfl (by decide +kernel) ⟨Nat.le_of_ble_eq_true rfl, Nat.le_of_ble_eq_true rfl⟩) rfl hl.1 rfl (Nat.le_of_ble_eq_true rfl) dX7_loads_59 (Nat.le_of_ble_eq_true rfl) (Nat.le_of_ble_eq_true rfl) (fun r4 M3 H locs hp hw hS hz hk => ?_)
            rw [hp.2] at hw
            rw [hp.1]
            have ix5 : ((nI (aP i k ja)) : Int32) = nI (aP i k ja) := rfl
            have ix5b : (aP i k ja) < 6144 := (aP_lt hi hk2 hj9a)
            refine m_iald X hK hw (hma.a7) (i := (nI (aP i k ja))) (by rw [ix5]; exact vp_in_nI ix5b (by decide)) dX7_loads_62 ?_
            rw [show ((nI (aP i k ja)) : Int32).toNatClampNeg = (aP i k ja) from by rw [ix5]; exact nI_clamp (by omega)]
            refine lv_if_ne (tgt := 74) hx hb dX7_loads_63 (by decide) (fun c_63 => ?_) (fun c_63 => ?_)
            · refine lv_iinc (v := (nI (ja + 1))) (lv' := [(4, .int (nI (ja + 1))), (5, .int (bI (mHr wa k (nI ja) && decide (rdT wa 4 (rP k ja) = t)))), (0, .ref x), (1, .int (nI i)), (2, .int (nI k)), (3, .int t)]) hx hb dX7_loads_74 hl (k := 1) rfl (nI_1 _) (by decide) rfl (fun ls hl => ?_)
              refine lv_goto (tgt := 3) hx hb dX7_loads_77 (by decide) ?_
              have hza2 : wa = itm (mLd i k t) (ja + 1) w := by
                show _ = (mLd i k t) ja (itm (mLd i k t) ja w)
                rw [← hza]
                unfold mLd
                rw [if_neg (by simp [(bI_t c_48), c_63])]
              exact ih (ja + 1) wa Ma H locs ls (by omega) (by omega) hza2 hma hfa hw hS (lv_sub hl [0, 2, 3, 4, 5] rfl)
            · refine lv_aload_n hx hb dX7_loads_66 rfl (lv_at hl 2 rfl) ?_
              refine lv_iload_n hx hb dX7_loads_67 rfl (lv_at hl 3 rfl) ?_
              refine lv_iload_n hx hb dX7_loads_68 rfl (lv_at hl 4 rfl) ?_
              refine lv_iload hx hb dX7_loads_69 (lv_at hl 1 rfl) ?_
              refine m_callVv X (ci := 8) rfl hxla hK hw hZ hS hA (As := [.int (nI i), .int (nI k), .int (nI ja)]) (rest := []) (c_takes l G dce _ Ma x ad wa hma i k ja hi hk2 hj9a) (cwV 3 hts gX7_loads_X7_takes rfl rfl rfl (by decide +kernel) ⟨Nat.le_of_ble_eq_true rfl, Nat.le_of_ble_eq_true rfl⟩) rfl hl.1 rfl (Nat.le_of_ble_eq_true rfl) dX7_loads_71 (Nat.le_of_ble_eq_true rfl) (Nat.le_of_ble_eq_true rfl) (fun M6 H locs hp hw hS hz hk => ?_)
              obtain ⟨hmt7, hft7⟩ := hp
              have frt7 := mFr.tr hfa hft7
              have hxt7 : M6 x = some (.inr (8, [.int (rdH (mTk i k ja wa)), .ref (ad 1), .ref (ad 2), .ref (ad 3), .ref (ad 4), .ref (ad 5), .ref (ad 6), .ref (ad 7), .ref (ad 8), .ref (ad 9), .ref (ad 10), .ref (ad 11), .ref (ad 12), .ref (ad 13), .int (nI (rdN (mTk i k ja wa))), .ref (ad 15)])) := hmt7.1
              refine lv_iinc (v := (nI (ja + 1))) (lv' := [(4, .int (nI (ja + 1))), (5, .int (bI (mHr wa k (nI ja) && decide (rdT wa 4 (rP k ja) = t)))), (0, .ref x), (1, .int (nI i)), (2, .int (nI k)), (3, .int t)]) hx hb dX7_loads_74 hl (k := 1) rfl (nI_1 _) (by decide) rfl (fun ls hl => ?_)
              refine lv_goto (tgt := 3) hx hb dX7_loads_77 (by decide) ?_
              have hza2 : (mTk i k ja wa) = itm (mLd i k t) (ja + 1) w := by
                show _ = (mLd i k t) ja (itm (mLd i k t) ja w)
                rw [← hza]
                unfold mLd
                rw [if_pos (by simp [(bI_t c_48), c_63])]
              exact ih (ja + 1) (mTk i k ja wa) M6 H locs ls (by omega) (by omega) hza2 hmt7 frt7 hw hS (lv_sub hl [0, 2, 3, 4, 5] rfl)
        refine lv_aload_n hx hb dX7_loads_14 rfl (lv_at hl 1 rfl) ?_
        refine lv_iload_n hx hb dX7_loads_15 rfl (lv_at hl 3 rfl) ?_
        refine lv_iload hx hb dX7_loads_16 (lv_at hl 0 rfl) ?_
        refine m_callVi X (ci := 8) rfl hxla hK hw hZ hS hA (As := [.int (nI k), .int (nI ja)]) (rest := []) (c_hasRow l G dce _ Ma x ad wa hma k hk2 (nI ja)) (cwV 2 hts gX7_loads_X7_hasRow rfl rfl rfl (by decide +kernel) ⟨Nat.le_of_ble_eq_true rfl, Nat.le_of_ble_eq_true rfl⟩) rfl hl.1 rfl (Nat.le_of_ble_eq_true rfl) dX7_loads_18 (Nat.le_of_ble_eq_true rfl) (Nat.le_of_ble_eq_true rfl) (fun r9 M8 H locs hp hw hS hz hk => ?_)
        rw [hp.2] at hw
        rw [hp.1]
        refine lv_if_eq (tgt := 43) hx hb dX7_loads_21 (by decide) (fun c_21 => ?_) (fun c_21 => ?_)
        · refine lv_iconst (v := 0) hx hb dX7_loads_43 (by decide) ?_
          exact jn14_q2 _ _ _ (by simp [bI, ((bI_0 _).mp c_21)]) hw hS
        · refine lv_aload_n hx hb dX7_loads_24 rfl (lv_at hl 1 rfl) ?_
          refine m_get X iX7 hK hw hxla rfl 4 (by decide) (ref := "ObjectMapperModel") (by decide +kernel) (Or.inl rfl) rfl dX7_loads_25 ?_
          refine lv_iload_n hx hb dX7_loads_28 rfl (lv_at hl 3 rfl) ?_
          refine lv_iload hx hb dX7_loads_29 (lv_at hl 0 rfl) ?_
          refine m_callSi X hK hw hZ hS hA (As := [.int (nI k), .int (nI ja)]) (rest := [.ref (ad 4)]) (c_rowK l G dce _ Ma k ja (nI k) rfl (nI ja) rfl) (va_cwS 2 hts gX7_loads_X7_row rfl rfl rfl (by decide +kernel) ⟨Nat.le_of_ble_eq_true rfl, Nat.le_of_ble_eq_true rfl⟩) rfl hl.1 rfl (Nat.le_of_ble_eq_true rfl) dX7_loads_31 (Nat.le_of_ble_eq_true rfl) (Nat.le_of_ble_eq_true rfl) (fun r11 M10 H locs hp hw hS hz hk => ?_)
          rw [hp.2] at hw
          rw [hp.1]
          have ix12 : ((nI (rP k ja)) : Int32) = nI (rP k ja) := rfl
          have ix12b : (rP k ja) < 2048 := (rP_lt hk2 hj9a)
          refine m_iald X hK hw (hma.a4) (i := (nI (rP k ja))) (by rw [ix12]; exact vp_in_nI ix12b (by decide)) dX7_loads_34 ?_
          rw [show ((nI (rP k ja)) : Int32).toNatClampNeg = (rP k ja) from by rw [ix12]; exact nI_clamp (by omega)]
          refine lv_iload_n hx hb dX7_loads_35 rfl (lv_at hl 4 rfl) ?_
          refine lv_icmp_ne (tgt := 43) hx hb dX7_loads_36 (by decide) (fun c_36 => ?_) (fun c_36 => ?_)
          · refine lv_iconst (v := 0) hx hb dX7_loads_43 (by decide) ?_
            exact jn14_q2 _ _ _ (by simp [bI, (bI_t c_21), c_36]) hw hS
          · refine lv_iconst (v := 1) hx hb dX7_loads_39 (by decide) ?_
            refine lv_goto (tgt := 44) hx hb dX7_loads_40 (by decide) ?_
            exact jn14_q2 _ _ _ (by simp [bI, (bI_t c_21), c_36]) hw hS
  exact loopa (rdK w k + 1) 0 w M _ _ ls (Nat.zero_le _) (Nat.le_of_eq (Nat.zero_add _).symm) rfl hm mFr.rf hw hS (lv_sub hl [0, 1, 2, 3, 4] rfl)
theorem c_loadsK (l : Launch) (G : gG) (dce sz : Nat) (M : gM) (x : Nat) (ad : Nat → Nat) (w : mW) (hm : MW G M x ad w) (i k : Nat) (hi : i < 3) (hk2 : k < 2) (t : Int32) (si : Int32) (hsi : si = nI i) (kd : Int32) (hkd : kd = nI k) : mV l yX7_loads wsX7_loads ({ frames := 2, cells := 0, slots := 0, locals := 47 }) G dce sz M [.ref x, .int si, .int kd, .int t] (fun M' => MW G M' x ad (itm (mLd i k t) (rdK w k) w) ∧ mFr x ad M M') (0) (0) := by
  subst hsi
  subst hkd
  exact c_loads l G dce sz M x ad w hm i k hi hk2 t
set_option maxHeartbeats 4000000 in
set_option maxRecDepth 100000 in
theorem c_makes (l : Launch) (G : gG) (dce sz : Nat) (M : gM) (x : Nat) (ad : Nat → Nat) (w : mW) (hm : MW G M x ad w) (i k : Nat) (hi : i < 3) (hk2 : k < 2) (nm rf : Int32) (hlt : rdK w k < 1024) : mI l yX7_makes wsX7_makes ({ frames := 1, cells := 0, slots := 0, locals := 22 }) G dce sz M [.ref x, .int (nI i), .int (nI k), .int nm, .int rf] (fun r M' => r = nI (rdK w k) ∧ MW G M' x ad (mMk i k nm rf w) ∧ mFr x ad M M') (0) (0) := by
  have hx0 : M x = some (.inr (8, [.int (rdH w), .ref (ad 1), .ref (ad 2), .ref (ad 3), .ref (ad 4), .ref (ad 5), .ref (ad 6), .ref (ad 7), .ref (ad 8), .ref (ad 9), .ref (ad 10), .ref (ad 11), .ref (ad 12), .ref (ad 13), .int (nI (rdN w)), .ref (ad 15)])) := hm.1
  refine wMet (Qc := QI G _) (cc := cX7_makes) (maxL := 7) (ret := (some .int)) (by decide) rfl (Nat.le_of_ble_eq_true rfl) ?_
  intro p e s m below meth c A ls X hnm hw hK hZ hA hS hsz eA hl
  obtain ⟨hx, hb, hr, hts, hown, hlk, hml⟩ := id X
  have hl : lv_has ls 7 [(0, .ref x), (1, .int (nI i)), (2, .int (nI k)), (3, .int nm), (4, .int rf)] := hl
  have iX7 : ∀ w ∈ wsX70, w ∈ wsX7_makes := by decide +kernel
  refine lv_aload_n hx hb dX7_makes_0 rfl (lv_at hl 0 rfl) ?_
  refine m_get X iX7 hK hw hx0 rfl 1 (by decide) (ref := "ObjectMapperModel") (by decide +kernel) (Or.inl rfl) rfl dX7_makes_1 ?_
  refine lv_iload_n hx hb dX7_makes_4 rfl (lv_at hl 2 rfl) ?_
  have ix1 : ((nI k) : Int32) = nI k := rfl
  have ix1b : k < 2 := hk2
  refine m_iald X hK hw (hm.a1) (i := (nI k)) (by rw [ix1]; exact vp_in_nI ix1b (by decide)) dX7_makes_5 ?_
  rw [show ((nI k) : Int32).toNatClampNeg = k from by rw [ix1]; exact nI_clamp (by omega)]
  refine lv_istore (lv' := [(5, .int (nI (rdK w k))), (0, .ref x), (1, .int (nI i)), (2, .int (nI k)), (3, .int nm), (4, .int rf)]) hx hb dX7_makes_6 hl (by decide) rfl (fun ls hl => ?_)
  refine lv_iload_n hx hb dX7_makes_8 rfl (lv_at hl 2 rfl) ?_
  refine lv_iload_n hx hb dX7_makes_9 rfl (lv_at hl 3 rfl) ?_
  refine lv_iload hx hb dX7_makes_10 (lv_at hl 0 rfl) ?_
  refine m_callSi X hK hw hZ hS hA (As := [.int (nI i), .int (nI k), .int (nI (rdK w k))]) (rest := []) (c_atK l G dce _ M i k (rdK w k) (nI i) rfl (nI k) rfl (nI (rdK w k)) rfl) (va_cwS 3 hts gX7_makes_X7_at rfl rfl rfl (by decide +kernel) ⟨Nat.le_of_ble_eq_true rfl, Nat.le_of_ble_eq_true rfl⟩) rfl hl.1 rfl (Nat.le_of_ble_eq_true rfl) dX7_makes_12 (Nat.le_of_ble_eq_true rfl) (Nat.le_of_ble_eq_true rfl) (fun r3 M2 H locs hp hw hS hz hk => ?_)
  rw [hp.2] at hw
  rw [hp.1]
  refine lv_istore (lv' := [(6, .int (nI (aP i k (rdK w k)))), (5, .int (nI (rdK w k))), (0, .ref x), (1, .int (nI i)), (2, .int (nI k)), (3, .int nm), (4, .int rf)]) hx hb dX7_makes_15 hl (by decide) rfl (fun ls hl => ?_)
  refine lv_aload_n hx hb dX7_makes_17 rfl (lv_at hl 2 rfl) ?_
  refine m_get X iX7 hK hw hx0 rfl 1 (by decide) (ref := "ObjectMapperModel") (by decide +kernel) (Or.inl rfl) rfl dX7_makes_18 ?_
  refine lv_iload_n hx hb dX7_makes_21 rfl (lv_at hl 4 rfl) ?_
  refine lv_dup2_11 hx hb dX7_makes_22 rfl rfl ?_
  have ix4 : ((nI k) : Int32) = nI k := rfl
  have ix4b : k < 2 := hk2
  refine m_iald X hK hw (hm.a1) (i := (nI k)) (by rw [ix4]; exact vp_in_nI ix4b (by decide)) dX7_makes_23 ?_
  rw [show ((nI k) : Int32).toNatClampNeg = k from by rw [ix4]; exact nI_clamp (by omega)]
  refine lv_iconst (v := 1) hx hb dX7_makes_24 (by decide) ?_
  refine lv_iadd hx hb dX7_makes_25 ?_
  rw [show nI (rdK w k) + (1 : Int32) = nI ((rdK w k) + 1) from nI_1 _]
  have ix6 : ((nI k) : Int32) = nI k := rfl
  have ix6b : k < 2 := hk2
  refine m_iast X hK hw hS (hm.a1) (i := (nI k)) (x := (nI ((rdK w k) + 1))) (by rw [ix6]; exact vp_in_nI ix6b (by decide)) dX7_makes_26 (fun M5 H locs eM5 hw hS => ?_)
  rw [show ((nI k) : Int32).toNatClampNeg = k from by rw [ix6]; exact nI_clamp (by omega)] at eM5
  obtain ⟨wt7, ewt7⟩ : ∃ w9, w9 = mK w k (rdK w k + 1) := ⟨_, rfl⟩
  have hmt7 : MW G M5 x ad wt7 := by rw [ewt7]; exact hm.setK (by omega) eM5
  have frt7 := mFr.tr mFr.rf (mFr.wr (x := x) (ad := ad) (a := 1) (by decide) eM5)
  have hxt7 : M5 x = some (.inr (8, [.int (rdH wt7), .ref (ad 1), .ref (ad 2), .ref (ad 3), .ref (ad 4), .ref (ad 5), .ref (ad 6), .ref (ad 7), .ref (ad 8), .ref (ad 9), .ref (ad 10), .ref (ad 11), .ref (ad 12), .ref (ad 13), .int (nI (rdN wt7)), .ref (ad 15)])) := hmt7.1
  refine lv_aload_n hx hb dX7_makes_27 rfl (lv_at hl 2 rfl) ?_
  refine m_get X iX7 hK hw hxt7 rfl 7 (by decide) (ref := "ObjectMapperModel") (by decide +kernel) (Or.inl rfl) rfl dX7_makes_28 ?_
  refine lv_iload hx hb dX7_makes_31 (lv_at hl 0 rfl) ?_
  refine lv_iconst (v := 1) hx hb dX7_makes_33 (by decide) ?_
  have ix9 : ((nI (aP i k (rdK w k))) : Int32) = nI (aP i k (rdK w k)) := rfl
  have ix9b : (aP i k (rdK w k)) < 6144 := (aP_lt hi hk2 hlt)
  refine m_iast X hK hw hS (hmt7.a7) (i := (nI (aP i k (rdK w k)))) (x := 1) (by rw [ix9]; exact vp_in_nI ix9b (by decide)) dX7_makes_34 (fun M8 H locs eM8 hw hS => ?_)
  rw [show ((nI (aP i k (rdK w k))) : Int32).toNatClampNeg = (aP i k (rdK w k)) from by rw [ix9]; exact nI_clamp (by omega)] at eM8
  obtain ⟨wt10, ewt10⟩ : ∃ w9, w9 = mS wt7 7 (aP i k (rdK w k)) 1 := ⟨_, rfl⟩
  have hmt10 : MW G M8 x ad wt10 := by rw [ewt10]; exact hmt7.set7 eM8
  have frt10 := mFr.tr frt7 (mFr.wr (x := x) (ad := ad) (a := 7) (by decide) eM8)
  have hxt10 : M8 x = some (.inr (8, [.int (rdH wt10), .ref (ad 1), .ref (ad 2), .ref (ad 3), .ref (ad 4), .ref (ad 5), .ref (ad 6), .ref (ad 7), .ref (ad 8), .ref (ad 9), .ref (ad 10), .ref (ad 11), .ref (ad 12), .ref (ad 13), .int (nI (rdN wt10)), .ref (ad 15)])) := hmt10.1
  refine lv_aload_n hx hb dX7_makes_35 rfl (lv_at hl 2 rfl) ?_
  refine m_get X iX7 hK hw hxt10 rfl 8 (by decide) (ref := "ObjectMapperModel") (by decide +kernel) (Or.inl rfl) rfl dX7_makes_36 ?_
  refine lv_iload hx hb dX7_makes_39 (lv_at hl 0 rfl) ?_
  refine lv_iconst (v := 0) hx hb dX7_makes_41 (by decide) ?_
  have ix12 : ((nI (aP i k (rdK w k))) : Int32) = nI (aP i k (rdK w k)) := rfl
  have ix12b : (aP i k (rdK w k)) < 6144 := (aP_lt hi hk2 hlt)
  refine m_zast X hK hw hS (hmt10.a8) (i := (nI (aP i k (rdK w k)))) (x := 0) (by decide) (by rw [ix12]; exact vp_in_nI ix12b (by decide)) dX7_makes_42 (fun M11 H locs eM11 hw hS => ?_)
  rw [show ((nI (aP i k (rdK w k))) : Int32).toNatClampNeg = (aP i k (rdK w k)) from by rw [ix12]; exact nI_clamp (by omega)] at eM11
  obtain ⟨wt13, ewt13⟩ : ∃ w9, w9 = mS wt10 8 (aP i k (rdK w k)) 0 := ⟨_, rfl⟩
  have hmt13 : MW G M11 x ad wt13 := by rw [ewt13]; exact hmt10.set8 eM11
  have frt13 := mFr.tr frt10 (mFr.wr (x := x) (ad := ad) (a := 8) (by decide) eM11)
  have hxt13 : M11 x = some (.inr (8, [.int (rdH wt13), .ref (ad 1), .ref (ad 2), .ref (ad 3), .ref (ad 4), .ref (ad 5), .ref (ad 6), .ref (ad 7), .ref (ad 8), .ref (ad 9), .ref (ad 10), .ref (ad 11), .ref (ad 12), .ref (ad 13), .int (nI (rdN wt13)), .ref (ad 15)])) := hmt13.1
  refine lv_aload_n hx hb dX7_makes_43 rfl (lv_at hl 2 rfl) ?_
  refine m_get X iX7 hK hw hxt13 rfl 9 (by decide) (ref := "ObjectMapperModel") (by decide +kernel) (Or.inl rfl) rfl dX7_makes_44 ?_
  refine lv_iload hx hb dX7_makes_47 (lv_at hl 0 rfl) ?_
  refine lv_iload_n hx hb dX7_makes_49 rfl (lv_at hl 5 rfl) ?_
  have ix15 : ((nI (aP i k (rdK w k))) : Int32) = nI (aP i k (rdK w k)) := rfl
  have ix15b : (aP i k (rdK w k)) < 6144 := (aP_lt hi hk2 hlt)
  refine m_iast X hK hw hS (hmt13.a9) (i := (nI (aP i k (rdK w k)))) (x := nm) (by rw [ix15]; exact vp_in_nI ix15b (by decide)) dX7_makes_50 (fun M14 H locs eM14 hw hS => ?_)
  rw [show ((nI (aP i k (rdK w k))) : Int32).toNatClampNeg = (aP i k (rdK w k)) from by rw [ix15]; exact nI_clamp (by omega)] at eM14
  obtain ⟨wt16, ewt16⟩ : ∃ w9, w9 = mS wt13 9 (aP i k (rdK w k)) nm := ⟨_, rfl⟩
  have hmt16 : MW G M14 x ad wt16 := by rw [ewt16]; exact hmt13.set9 eM14
  have frt16 := mFr.tr frt13 (mFr.wr (x := x) (ad := ad) (a := 9) (by decide) eM14)
  have hxt16 : M14 x = some (.inr (8, [.int (rdH wt16), .ref (ad 1), .ref (ad 2), .ref (ad 3), .ref (ad 4), .ref (ad 5), .ref (ad 6), .ref (ad 7), .ref (ad 8), .ref (ad 9), .ref (ad 10), .ref (ad 11), .ref (ad 12), .ref (ad 13), .int (nI (rdN wt16)), .ref (ad 15)])) := hmt16.1
  refine lv_aload_n hx hb dX7_makes_51 rfl (lv_at hl 2 rfl) ?_
  refine m_get X iX7 hK hw hxt16 rfl 10 (by decide) (ref := "ObjectMapperModel") (by decide +kernel) (Or.inl rfl) rfl dX7_makes_52 ?_
  refine lv_iload hx hb dX7_makes_55 (lv_at hl 0 rfl) ?_
  refine lv_iload hx hb dX7_makes_57 (lv_at hl 6 rfl) ?_
  have ix18 : ((nI (aP i k (rdK w k))) : Int32) = nI (aP i k (rdK w k)) := rfl
  have ix18b : (aP i k (rdK w k)) < 6144 := (aP_lt hi hk2 hlt)
  refine m_iast X hK hw hS (hmt16.a10) (i := (nI (aP i k (rdK w k)))) (x := rf) (by rw [ix18]; exact vp_in_nI ix18b (by decide)) dX7_makes_59 (fun M17 H locs eM17 hw hS => ?_)
  rw [show ((nI (aP i k (rdK w k))) : Int32).toNatClampNeg = (aP i k (rdK w k)) from by rw [ix18]; exact nI_clamp (by omega)] at eM17
  obtain ⟨wt19, ewt19⟩ : ∃ w9, w9 = mS wt16 10 (aP i k (rdK w k)) rf := ⟨_, rfl⟩
  have hmt19 : MW G M17 x ad wt19 := by rw [ewt19]; exact hmt16.set10 eM17
  have frt19 := mFr.tr frt16 (mFr.wr (x := x) (ad := ad) (a := 10) (by decide) eM17)
  have hxt19 : M17 x = some (.inr (8, [.int (rdH wt19), .ref (ad 1), .ref (ad 2), .ref (ad 3), .ref (ad 4), .ref (ad 5), .ref (ad 6), .ref (ad 7), .ref (ad 8), .ref (ad 9), .ref (ad 10), .ref (ad 11), .ref (ad 12), .ref (ad 13), .int (nI (rdN wt19)), .ref (ad 15)])) := hmt19.1
  refine lv_iload hx hb dX7_makes_60 (lv_at hl 1 rfl) ?_
  have hfin : mMk i k nm rf w = wt19 := by rw [ewt19, ewt16, ewt13, ewt10, ewt7]; rfl
  exact m_iret X hK hw hS ⟨rfl, by rw [hfin]; exact hmt19, frt19⟩ (by omega) (by omega) dX7_makes_62
theorem c_makesK (l : Launch) (G : gG) (dce sz : Nat) (M : gM) (x : Nat) (ad : Nat → Nat) (w : mW) (hm : MW G M x ad w) (i k : Nat) (hi : i < 3) (hk2 : k < 2) (nm rf : Int32) (hlt : rdK w k < 1024) (si : Int32) (hsi : si = nI i) (kd : Int32) (hkd : kd = nI k) : mI l yX7_makes wsX7_makes ({ frames := 1, cells := 0, slots := 0, locals := 22 }) G dce sz M [.ref x, .int si, .int kd, .int nm, .int rf] (fun r M' => r = nI (rdK w k) ∧ MW G M' x ad (mMk i k nm rf w) ∧ mFr x ad M M') (0) (0) := by
  subst hsi
  subst hkd
  exact c_makes l G dce sz M x ad w hm i k hi hk2 nm rf hlt
set_option maxHeartbeats 4000000 in
set_option maxRecDepth 100000 in
theorem c_goes (l : Launch) (G : gG) (dce sz : Nat) (M : gM) (x : Nat) (ad : Nat → Nat) (w : mW) (hm : MW G M x ad w) (i k j : Nat) (hi : i < 3) (hk2 : k < 2) (hj2 : j < 1024) : mV l yX7_goes wsX7_goes ({ frames := 1, cells := 0, slots := 0, locals := 22 }) G dce sz M [.ref x, .int (nI i), .int (nI k), .int (nI j)] (fun M' => MW G M' x ad (mGo i k j w) ∧ mFr x ad M M') (0) (0) := by
  have hx0 : M x = some (.inr (8, [.int (rdH w), .ref (ad 1), .ref (ad 2), .ref (ad 3), .ref (ad 4), .ref (ad 5), .ref (ad 6), .ref (ad 7), .ref (ad 8), .ref (ad 9), .ref (ad 10), .ref (ad 11), .ref (ad 12), .ref (ad 13), .int (nI (rdN w)), .ref (ad 15)])) := hm.1
  refine wMet (Qc := QV G _) (cc := cX7_goes) (maxL := 5) (ret := none) (by decide) rfl (Nat.le_of_ble_eq_true rfl) ?_
  intro p e s m below meth c A ls X hnm hw hK hZ hA hS hsz eA hl
  obtain ⟨hx, hb, hr, hts, hown, hlk, hml⟩ := id X
  have hl : lv_has ls 5 [(0, .ref x), (1, .int (nI i)), (2, .int (nI k)), (3, .int (nI j))] := hl
  have iX7 : ∀ w ∈ wsX70, w ∈ wsX7_goes := by decide +kernel
  refine lv_iload_n hx hb dX7_goes_0 rfl (lv_at hl 1 rfl) ?_
  refine lv_iload_n hx hb dX7_goes_1 rfl (lv_at hl 2 rfl) ?_
  refine lv_iload_n hx hb dX7_goes_2 rfl (lv_at hl 3 rfl) ?_
  refine m_callSi X hK hw hZ hS hA (As := [.int (nI i), .int (nI k), .int (nI j)]) (rest := []) (c_atK l G dce _ M i k j (nI i) rfl (nI k) rfl (nI j) rfl) (va_cwS 3 hts gX7_goes_X7_at rfl rfl rfl (by decide +kernel) ⟨Nat.le_of_ble_eq_true rfl, Nat.le_of_ble_eq_true rfl⟩) rfl hl.1 rfl (Nat.le_of_ble_eq_true rfl) dX7_goes_3 (Nat.le_of_ble_eq_true rfl) (Nat.le_of_ble_eq_true rfl) (fun r2 M1 H locs hp hw hS hz hk => ?_)
  rw [hp.2] at hw
  rw [hp.1]
  refine lv_istore (lv' := [(4, .int (nI (aP i k j))), (0, .ref x), (1, .int (nI i)), (2, .int (nI k)), (3, .int (nI j))]) hx hb dX7_goes_6 hl (by decide) rfl (fun ls hl => ?_)
  refine lv_aload_n hx hb dX7_goes_8 rfl (lv_at hl 1 rfl) ?_
  refine m_get X iX7 hK hw hx0 rfl 8 (by decide) (ref := "ObjectMapperModel") (by decide +kernel) (Or.inl rfl) rfl dX7_goes_9 ?_
  refine lv_iload hx hb dX7_goes_12 (lv_at hl 0 rfl) ?_
  have jn14_q3 : ∀ (v : Int32) (H : Heap) (locs : List Loc), v = bI (decide (rdT w 7 (aP i k j) = 2)) → wd G A M H → va_S A s.heap H locs → W p l e ({ frames := 1, cells := 0, slots := 0, locals := 22 }) s m [.ref x, .int (nI i), .int (nI k), .int (nI j)].toArray below meth c H locs (0) (0) (MQ below (QV G (fun M' => MW G M' x ad (mGo i k j w) ∧ mFr x ad M M') A) [.ref x, .int (nI i), .int (nI k), .int (nI j)].toArray s (0) (0) A) (F0 m 30 ls [(.int v), .int (nI (aP i k j)), .ref (ad 8)]) := by
    intro v H locs hv9 hw hS
    rw [hv9]
    have ix5 : ((nI (aP i k j)) : Int32) = nI (aP i k j) := rfl
    have ix5b : (aP i k j) < 6144 := (aP_lt hi hk2 hj2)
    refine m_zast X hK hw hS (hm.a8) (i := (nI (aP i k j))) (x := (bI (decide (rdT w 7 (aP i k j) = 2)))) (bI_vp _) (by rw [ix5]; exact vp_in_nI ix5b (by decide)) dX7_goes_30 (fun M4 H locs eM4 hw hS => ?_)
    rw [show ((nI (aP i k j)) : Int32).toNatClampNeg = (aP i k j) from by rw [ix5]; exact nI_clamp (by omega)] at eM4
    obtain ⟨wt6, ewt6⟩ : ∃ w9, w9 = mS w 8 (aP i k j) (bI (decide (rdT w 7 (aP i k j) = 2))) := ⟨_, rfl⟩
    have hmt6 : MW G M4 x ad wt6 := by rw [ewt6]; exact hm.set8 eM4
    have frt6 := mFr.tr mFr.rf (mFr.wr (x := x) (ad := ad) (a := 8) (by decide) eM4)
    have hxt6 : M4 x = some (.inr (8, [.int (rdH wt6), .ref (ad 1), .ref (ad 2), .ref (ad 3), .ref (ad 4), .ref (ad 5), .ref (ad 6), .ref (ad 7), .ref (ad 8), .ref (ad 9), .ref (ad 10), .ref (ad 11), .ref (ad 12), .ref (ad 13), .int (nI (rdN wt6)), .ref (ad 15)])) := hmt6.1
    refine lv_aload_n hx hb dX7_goes_31 rfl (lv_at hl 1 rfl) ?_
    refine m_get X iX7 hK hw hxt6 rfl 7 (by decide) (ref := "ObjectMapperModel") (by decide +kernel) (Or.inl rfl) rfl dX7_goes_32 ?_
    refine lv_iload hx hb dX7_goes_35 (lv_at hl 0 rfl) ?_
    have jn2 : ∀ (v : Int32) (H : Heap) (locs : List Loc), v = (if rdT w 7 (aP i k j) = 2 then (2 : Int32) else 0) → wd G A M4 H → va_S A s.heap H locs → W p l e ({ frames := 1, cells := 0, slots := 0, locals := 22 }) s m [.ref x, .int (nI i), .int (nI k), .int (nI j)].toArray below meth c H locs (0) (0) (MQ below (QV G (fun M' => MW G M' x ad (mGo i k j w) ∧ mFr x ad M M') A) [.ref x, .int (nI i), .int (nI k), .int (nI j)].toArray s (0) (0) A) (F0 m 53 ls [(.int v), .int (nI (aP i k j)), .ref (ad 7)]) := by
      intro v H locs hv9 hw hS
      rw [hv9]
      have ix8 : ((nI (aP i k j)) : Int32) = nI (aP i k j) := rfl
      have ix8b : (aP i k j) < 6144 := (aP_lt hi hk2 hj2)
      refine m_iast X hK hw hS (hmt6.a7) (i := (nI (aP i k j))) (x := (if rdT w 7 (aP i k j) = 2 then (2 : Int32) else 0)) (by rw [ix8]; exact vp_in_nI ix8b (by decide)) dX7_goes_53 (fun M7 H locs eM7 hw hS => ?_)
      rw [show ((nI (aP i k j)) : Int32).toNatClampNeg = (aP i k j) from by rw [ix8]; exact nI_clamp (by omega)] at eM7
      obtain ⟨wt9, ewt9⟩ : ∃ w9, w9 = mS wt6 7 (aP i k j) (if rdT w 7 (aP i k j) = 2 then (2 : Int32) else 0) := ⟨_, rfl⟩
      have hmt9 : MW G M7 x ad wt9 := by rw [ewt9]; exact hmt6.set7 eM7
      have frt9 := mFr.tr frt6 (mFr.wr (x := x) (ad := ad) (a := 7) (by decide) eM7)
      have hxt9 : M7 x = some (.inr (8, [.int (rdH wt9), .ref (ad 1), .ref (ad 2), .ref (ad 3), .ref (ad 4), .ref (ad 5), .ref (ad 6), .ref (ad 7), .ref (ad 8), .ref (ad 9), .ref (ad 10), .ref (ad 11), .ref (ad 12), .ref (ad 13), .int (nI (rdN wt9)), .ref (ad 15)])) := hmt9.1
      have hfin : mGo i k j w = wt9 := by rw [ewt9, ewt6]; first | rfl | simp [mGo]
      exact m_vret X hK hw hS ⟨by rw [hfin]; exact hmt9, frt9⟩ (by omega) (by omega) dX7_goes_54
    refine lv_aload_n hx hb dX7_goes_37 rfl (lv_at hl 1 rfl) ?_
    refine m_get X iX7 hK hw hxt6 rfl 7 (by decide) (ref := "ObjectMapperModel") (by decide +kernel) (Or.inl rfl) rfl dX7_goes_38 ?_
    refine lv_iload hx hb dX7_goes_41 (lv_at hl 0 rfl) ?_
    have ix10 : ((nI (aP i k j)) : Int32) = nI (aP i k j) := rfl
    have ix10b : (aP i k j) < 6144 := (aP_lt hi hk2 hj2)
    refine m_iald X hK hw (hmt6.a7) (i := (nI (aP i k j))) (by rw [ix10]; exact vp_in_nI ix10b (by decide)) dX7_goes_43 ?_
    rw [show ((nI (aP i k j)) : Int32).toNatClampNeg = (aP i k j) from by rw [ix10]; exact nI_clamp (by omega)]
    rw [show rdT wt6 7 = rdT w 7 from by rw [ewt6, rdT_o (by decide)]]
    refine lv_iconst (v := 2) hx hb dX7_goes_44 (by decide) ?_
    refine lv_icmp_ne (tgt := 52) hx hb dX7_goes_45 (by decide) (fun c_45 => ?_) (fun c_45 => ?_)
    · refine lv_iconst (v := 0) hx hb dX7_goes_52 (by decide) ?_
      exact jn2 _ _ _ (by rw [if_neg c_45]) hw hS
    · refine lv_iconst (v := 2) hx hb dX7_goes_48 (by decide) ?_
      refine lv_goto (tgt := 53) hx hb dX7_goes_49 (by decide) ?_
      exact jn2 _ _ _ (by rw [if_pos c_45]) hw hS
  refine lv_aload_n hx hb dX7_goes_14 rfl (lv_at hl 1 rfl) ?_
  refine m_get X iX7 hK hw hx0 rfl 7 (by decide) (ref := "ObjectMapperModel") (by decide +kernel) (Or.inl rfl) rfl dX7_goes_15 ?_
  refine lv_iload hx hb dX7_goes_18 (lv_at hl 0 rfl) ?_
  have ix11 : ((nI (aP i k j)) : Int32) = nI (aP i k j) := rfl
  have ix11b : (aP i k j) < 6144 := (aP_lt hi hk2 hj2)
  refine m_iald X hK hw (hm.a7) (i := (nI (aP i k j))) (by rw [ix11]; exact vp_in_nI ix11b (by decide)) dX7_goes_20 ?_
  rw [show ((nI (aP i k j)) : Int32).toNatClampNeg = (aP i k j) from by rw [ix11]; exact nI_clamp (by omega)]
  refine lv_iconst (v := 2) hx hb dX7_goes_21 (by decide) ?_
  refine lv_icmp_ne (tgt := 29) hx hb dX7_goes_22 (by decide) (fun c_22 => ?_) (fun c_22 => ?_)
  · refine lv_iconst (v := 0) hx hb dX7_goes_29 (by decide) ?_
    exact jn14_q3 _ _ _ (by simp [bI, c_22]) hw hS
  · refine lv_iconst (v := 1) hx hb dX7_goes_25 (by decide) ?_
    refine lv_goto (tgt := 30) hx hb dX7_goes_26 (by decide) ?_
    exact jn14_q3 _ _ _ (by simp [bI, c_22]) hw hS
theorem c_goesK (l : Launch) (G : gG) (dce sz : Nat) (M : gM) (x : Nat) (ad : Nat → Nat) (w : mW) (hm : MW G M x ad w) (i k j : Nat) (hi : i < 3) (hk2 : k < 2) (hj2 : j < 1024) (si : Int32) (hsi : si = nI i) (kd : Int32) (hkd : kd = nI k) : mV l yX7_goes wsX7_goes ({ frames := 1, cells := 0, slots := 0, locals := 22 }) G dce sz M [.ref x, .int si, .int kd, .int (nI j)] (fun M' => MW G M' x ad (mGo i k j w) ∧ mFr x ad M M') (0) (0) := by
  subst hsi
  subst hkd
  exact c_goes l G dce sz M x ad w hm i k j hi hk2 hj2
set_option maxHeartbeats 4000000 in
set_option maxRecDepth 100000 in
theorem c_X7_isSession (l : Launch) (G : gG) (dce sz : Nat) (M : gM) (si : Int32) : mI l yX7_isSession wsX7_isSession ({ frames := 0, cells := 0, slots := 0, locals := 0 }) G dce sz M [.int si] (fun r M' => r = bI (sOK si) ∧ M' = M) (0) (0) := by
  refine wMet (Qc := QI G _) (cc := cX7_isSession) (maxL := 1) (ret := (some .boolean)) (by decide) rfl (Nat.le_of_ble_eq_true rfl) ?_
  intro p e s m below meth c A ls X hnm hw hK hZ hA hS hsz eA hl
  obtain ⟨hx, hb, hr, hts, hown, hlk, hml⟩ := id X
  have hl : lv_has ls 1 [(0, .int si)] := hl
  refine lv_iload_n hx hb dX7_isSession_0 rfl (lv_at hl 0 rfl) ?_
  refine lv_if_lt (tgt := 13) hx hb dX7_isSession_1 (by decide) (fun c_1 => ?_) (fun c_1 => ?_)
  · refine lv_iconst (v := 0) hx hb dX7_isSession_13 (by decide) ?_
    exact m_zret X (by decide) hK hw hS (by refine ⟨?_, rfl⟩; unfold sOK; first | (rw [decide_eq_true c_1]; rfl) | (rw [decide_eq_false (show ¬ si < 3 from Int32.not_lt.mpr c_6)]; rw [Bool.and_false]; rfl) | (rw [decide_eq_false c_1, show decide (si < 3) = true from decide_eq_true (Int32.not_le.mp c_6)]; rfl)) (by omega) (by omega) dX7_isSession_14
  · refine lv_iload_n hx hb dX7_isSession_4 rfl (lv_at hl 0 rfl) ?_
    refine lv_iconst (v := 3) hx hb dX7_isSession_5 (by decide) ?_
    refine lv_icmp_ge (tgt := 13) hx hb dX7_isSession_6 (by decide) (fun c_6 => ?_) (fun c_6 => ?_)
    · refine lv_iconst (v := 0) hx hb dX7_isSession_13 (by decide) ?_
      exact m_zret X (by decide) hK hw hS (by refine ⟨?_, rfl⟩; unfold sOK; first | (rw [decide_eq_true c_1]; rfl) | (rw [decide_eq_false (show ¬ si < 3 from Int32.not_lt.mpr c_6)]; rw [Bool.and_false]; rfl) | (rw [decide_eq_false c_1, show decide (si < 3) = true from decide_eq_true (Int32.not_le.mp c_6)]; rfl)) (by omega) (by omega) dX7_isSession_14
    · refine lv_iconst (v := 1) hx hb dX7_isSession_9 (by decide) ?_
      refine lv_goto (tgt := 14) hx hb dX7_isSession_10 (by decide) ?_
      exact m_zret X (by decide) hK hw hS (by refine ⟨?_, rfl⟩; unfold sOK; first | (rw [decide_eq_true c_1]; rfl) | (rw [decide_eq_false (show ¬ si < 3 from Int32.not_lt.mpr c_6)]; rw [Bool.and_false]; rfl) | (rw [decide_eq_false c_1, show decide (si < 3) = true from decide_eq_true (Int32.not_le.mp c_6)]; rfl)) (by omega) (by omega) dX7_isSession_14
set_option maxHeartbeats 4000000 in
set_option maxRecDepth 100000 in
theorem c_X7_isKind (l : Launch) (G : gG) (dce sz : Nat) (M : gM) (kd : Int32) : mI l yX7_isKind wsX7_isKind ({ frames := 0, cells := 0, slots := 0, locals := 0 }) G dce sz M [.int kd] (fun r M' => r = bI (kOK kd) ∧ M' = M) (0) (0) := by
  refine wMet (Qc := QI G _) (cc := cX7_isKind) (maxL := 1) (ret := (some .boolean)) (by decide) rfl (Nat.le_of_ble_eq_true rfl) ?_
  intro p e s m below meth c A ls X hnm hw hK hZ hA hS hsz eA hl
  obtain ⟨hx, hb, hr, hts, hown, hlk, hml⟩ := id X
  have hl : lv_has ls 1 [(0, .int kd)] := hl
  refine lv_iload_n hx hb dX7_isKind_0 rfl (lv_at hl 0 rfl) ?_
  refine lv_if_eq (tgt := 9) hx hb dX7_isKind_1 (by decide) (fun c_1 => ?_) (fun c_1 => ?_)
  · refine lv_iconst (v := 1) hx hb dX7_isKind_9 (by decide) ?_
    refine lv_goto (tgt := 14) hx hb dX7_isKind_10 (by decide) ?_
    exact m_zret X (by decide) hK hw hS (by refine ⟨?_, rfl⟩; simp_all [kOK, bI]) (by omega) (by omega) dX7_isKind_14
  · refine lv_iload_n hx hb dX7_isKind_4 rfl (lv_at hl 0 rfl) ?_
    refine lv_iconst (v := 1) hx hb dX7_isKind_5 (by decide) ?_
    refine lv_icmp_ne (tgt := 13) hx hb dX7_isKind_6 (by decide) (fun c_6 => ?_) (fun c_6 => ?_)
    · refine lv_iconst (v := 0) hx hb dX7_isKind_13 (by decide) ?_
      exact m_zret X (by decide) hK hw hS (by refine ⟨?_, rfl⟩; simp_all [kOK, bI]) (by omega) (by omega) dX7_isKind_14
    · refine lv_iconst (v := 1) hx hb dX7_isKind_9 (by decide) ?_
      refine lv_goto (tgt := 14) hx hb dX7_isKind_10 (by decide) ?_
      exact m_zret X (by decide) hK hw hS (by refine ⟨?_, rfl⟩; simp_all [kOK, bI]) (by omega) (by omega) dX7_isKind_14
set_option maxHeartbeats 4000000 in
set_option maxRecDepth 100000 in
theorem c_X7_isName (l : Launch) (G : gG) (dce sz : Nat) (M : gM) (nm : Int32) : mI l yX7_isName wsX7_isName ({ frames := 0, cells := 0, slots := 0, locals := 0 }) G dce sz M [.int nm] (fun r M' => r = bI (nOK nm) ∧ M' = M) (0) (0) := by
  refine wMet (Qc := QI G _) (cc := cX7_isName) (maxL := 1) (ret := (some .boolean)) (by decide) rfl (Nat.le_of_ble_eq_true rfl) ?_
  intro p e s m below meth c A ls X hnm hw hK hZ hA hS hsz eA hl
  obtain ⟨hx, hb, hr, hts, hown, hlk, hml⟩ := id X
  have hl : lv_has ls 1 [(0, .int nm)] := hl
  refine lv_iload_n hx hb dX7_isName_0 rfl (lv_at hl 0 rfl) ?_
  refine lv_if_lt (tgt := 15) hx hb dX7_isName_1 (by decide) (fun c_1 => ?_) (fun c_1 => ?_)
  · refine lv_iconst (v := 0) hx hb dX7_isName_15 (by decide) ?_
    exact m_zret X (by decide) hK hw hS (by refine ⟨?_, rfl⟩; unfold nOK; first | (rw [decide_eq_true c_1]; rfl) | (rw [decide_eq_false (show ¬ nm ≤ 1000 from Int32.not_le.mpr c_8)]; rw [Bool.and_false]; rfl) | (rw [decide_eq_false c_1, show decide (nm ≤ 1000) = true from decide_eq_true (Int32.not_lt.mp c_8)]; rfl)) (by omega) (by omega) dX7_isName_16
  · refine lv_iload_n hx hb dX7_isName_4 rfl (lv_at hl 0 rfl) ?_
    refine lv_sipush (v := 1000) hx hb dX7_isName_5 (by decide) ?_
    refine lv_icmp_gt (tgt := 15) hx hb dX7_isName_8 (by decide) (fun c_8 => ?_) (fun c_8 => ?_)
    · refine lv_iconst (v := 0) hx hb dX7_isName_15 (by decide) ?_
      exact m_zret X (by decide) hK hw hS (by refine ⟨?_, rfl⟩; unfold nOK; first | (rw [decide_eq_true c_1]; rfl) | (rw [decide_eq_false (show ¬ nm ≤ 1000 from Int32.not_le.mpr c_8)]; rw [Bool.and_false]; rfl) | (rw [decide_eq_false c_1, show decide (nm ≤ 1000) = true from decide_eq_true (Int32.not_lt.mp c_8)]; rfl)) (by omega) (by omega) dX7_isName_16
    · refine lv_iconst (v := 1) hx hb dX7_isName_11 (by decide) ?_
      refine lv_goto (tgt := 16) hx hb dX7_isName_12 (by decide) ?_
      exact m_zret X (by decide) hK hw hS (by refine ⟨?_, rfl⟩; unfold nOK; first | (rw [decide_eq_true c_1]; rfl) | (rw [decide_eq_false (show ¬ nm ≤ 1000 from Int32.not_le.mpr c_8)]; rw [Bool.and_false]; rfl) | (rw [decide_eq_false c_1, show decide (nm ≤ 1000) = true from decide_eq_true (Int32.not_lt.mp c_8)]; rfl)) (by omega) (by omega) dX7_isName_16
