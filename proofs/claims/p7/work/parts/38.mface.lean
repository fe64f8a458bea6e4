/-- the place of the throw that a call asks for -/
def aA (w : mW) (si kd ky : Int32) (b : Bool) : Int32 := if sOK si = true then (if (kOK kd && b) = true then (if mKn w si.toNatClampNeg kd.toNatClampNeg ky = true then 0 else 3) else 2) else 1
def aMA (si nm : Int32) : Int32 := if sOK si = true then (if nOK nm = true then 0 else 2) else 1
def aMB (w : mW) (si nm au : Int32) : Int32 := if sOK si = true then (if nOK nm = true then (if mKn w si.toNatClampNeg 0 au = true then 0 else 3) else 2) else 1
def aFi (si kd : Int32) : Int32 := if sOK si = true then (if kOK kd = true then 0 else 2) else 1
def aBk (w : mW) (si au : Int32) : Int32 := if sOK si = true then (if mKn w si.toNatClampNeg 0 au = true then 0 else 2) else 1
def aSe (si : Int32) : Int32 := if sOK si = true then 0 else 1
def aKi (kd : Int32) : Int32 := if kOK kd = true then 0 else 1
def aRw (w : mW) (kd ky : Int32) : Int32 := if kOK kd = true then (if mHr w kd.toNatClampNeg ky = true then 0 else 2) else 1
def wOK (w : mW) (nu : Int32) : Bool := !decide (nu < 0) && !decide (nI (rdN w) ≤ nu)
def aWr (w : mW) (nu : Int32) : Int32 := if wOK w nu = true then 0 else 1
theorem mKn_in {w : mW} {i k : Nat} {ky : Int32} (hn : rdK w k ≤ 1024) (h : mKn w i k ky = true) : ∃ j : Nat, j < rdK w k ∧ ky = nI j := by
  unfold mKn at h
  exact inK_n hn ((Bool.and_eq_true _ _).mp h).1
theorem mHr_in {w : mW} {k : Nat} {ky : Int32} (hn : rdK w k ≤ 1024) (h : mHr w k ky = true) : ∃ j : Nat, j < rdK w k ∧ ky = nI j := by
  unfold mHr at h
  exact inK_n hn ((Bool.and_eq_true _ _).mp h).1
theorem aA_0 {w : mW} {si kd ky : Int32} {b : Bool} (hn : ∀ k, k < 2 → rdK w k ≤ 1024) (h : aA w si kd ky b = 0) : ∃ i k j : Nat, aS si i ∧ aK kd k ∧ b = true ∧ (j < rdK w k ∧ ky = nI j) ∧ mKn w i k (nI j) = true := by
  unfold aA at h
  split at h
  · rename_i h1
    split at h
    · rename_i h2
      split at h
      · rename_i h3
        obtain ⟨i, hi, ei⟩ := sOK_i h1
        obtain ⟨k, hk, ek⟩ := kOK_k ((Bool.and_eq_true _ _).mp h2).1
        rw [ei, ek, nI_clamp (by omega), nI_clamp (by omega)] at h3
        obtain ⟨j, hj, ej⟩ := mKn_in (hn k hk) h3
        exact ⟨i, k, j, ⟨hi, ei⟩, ⟨hk, ek⟩, ((Bool.and_eq_true _ _).mp h2).2, ⟨hj, ej⟩, by rw [← ej]; exact h3⟩
      · exact absurd h (by decide)
    · exact absurd h (by decide)
  · exact absurd h (by decide)
theorem mKn_H (w : mW) (v : Int32) : mKn (mH w v) = mKn w := rfl
theorem mHr_H (w : mW) (v : Int32) : mHr (mH w v) = mHr w := rfl
theorem mDr_H (w : mW) (v : Int32) : mDr (mH w v) = mDr w := rfl
theorem mMd_H (w : mW) (v : Int32) : mMd (mH w v) = mMd w := rfl
theorem mGn_H (w : mW) (v : Int32) : mGn (mH w v) = mGn w := rfl
def mFi (i k : Nat) (ky : Int32) (w : mW) : mW := if (mHr w k ky && decide (rdT w 7 (aP i k ky.toNatClampNeg) = 0)) = true then mTk i k ky.toNatClampNeg w else w
def aSR (w : mW) (si kd ky rf : Int32) : Int32 := if aA w si kd ky (!decide (rf = -1) || decide (kd = 0)) = 0 then (if (decide (rf = -1) || mKn w si.toNatClampNeg (1 - kd.toNatClampNeg) rf) = true then 0 else 3) else aA w si kd ky (!decide (rf = -1) || decide (kd = 0))
set_option maxHeartbeats 4000000 in
set_option maxRecDepth 100000 in
theorem c_mMakeAuthor (l : Launch) (G : gG) (dce sz : Nat) (M : gM) (x : Nat) (ad : Nat → Nat) (w : mW) (hm : MW G M x ad w) (si nm : Int32) (hlt : rdK w 0 < 1024) : mI l yX7_makeAuthor wsX7_makeAuthor ({ frames := 2, cells := 0, slots := 0, locals := 48 }) G dce sz M [.ref x, .int si, .int nm] (fun r M' => mFr x ad M M' ∧ (((aMA si nm) = 0 ∧ ∃ i, aS si i ∧ nOK nm = true ∧ r = nI (rdK w 0) ∧ MW G M' x ad (mMk i 0 nm (-1) (mH w 0))) ∨ ((aMA si nm) ≠ 0 ∧ MW G M' x ad (mH w (aMA si nm))))) (0) (0) := by
  have hx0 : M x = some (.inr (8, [.int (rdH w), .ref (ad 1), .ref (ad 2), .ref (ad 3), .ref (ad 4), .ref (ad 5), .ref (ad 6), .ref (ad 7), .ref (ad 8), .ref (ad 9), .ref (ad 10), .ref (ad 11), .ref (ad 12), .ref (ad 13), .int (nI (rdN w)), .ref (ad 15)])) := hm.1
  refine wMet (Qc := QI G _) (cc := cX7_makeAuthor) (maxL := 3) (ret := (some .int)) (by decide) rfl (Nat.le_of_ble_eq_true rfl) ?_
  intro p e s m below meth c A ls X hnm hw hK hZ hA hS hsz eA hl
  obtain ⟨hx, hb, hr, hts, hown, hlk, hml⟩ := id X
  have hl : lv_has ls 3 [(0, .ref x), (1, .int si), (2, .int nm)] := hl
  refine lv_aload_n hx hb dX7_makeAuthor_0 rfl (lv_at hl 0 rfl) ?_
  refine lv_iload_n hx hb dX7_makeAuthor_1 rfl (lv_at hl 1 rfl) ?_
  refine m_callSi X hK hw hZ hS hA (As := [.int si]) (rest := [.ref x]) (c_X7_isSession l G dce _ M si) (va_cwS 1 hts gX7_makeAuthor_X7_isSession rfl rfl rfl (by decide +kernel) ⟨Nat.le_of_ble_eq_true rfl, Nat.le_of_ble_eq_true rfl⟩) rfl hl.1 rfl (Nat.le_of_ble_eq_true rfl) dX7_makeAuthor_2 (Nat.le_of_ble_eq_true rfl) (Nat.le_of_ble_eq_true rfl) (fun r2 M1 H locs hp hw hS hz hk => ?_)
  rw [hp.2] at hw
  rw [hp.1]
  refine lv_if_ne (tgt := 12) hx hb dX7_makeAuthor_5 (by decide) (fun c_5 => ?_) (fun c_5 => ?_)
  · obtain ⟨i, hi, ei⟩ := sOK_i (bI_t c_5)
    have si9 : si.toNatClampNeg = i := by rw [ei]; exact nI_clamp (by omega)
    refine lv_iload_n hx hb dX7_makeAuthor_12 rfl (lv_at hl 2 rfl) ?_
    refine m_callSi X hK hw hZ hS hA (As := [.int nm]) (rest := [.ref x]) (c_X7_isName l G dce _ M nm) (va_cwS 1 hts gX7_makeAuthor_X7_isName rfl rfl rfl (by decide +kernel) ⟨Nat.le_of_ble_eq_true rfl, Nat.le_of_ble_eq_true rfl⟩) rfl hl.1 rfl (Nat.le_of_ble_eq_true rfl) dX7_makeAuthor_13 (Nat.le_of_ble_eq_true rfl) (Nat.le_of_ble_eq_true rfl) (fun r4 M3 H locs hp hw hS hz hk => ?_)
    rw [hp.2] at hw
    rw [hp.1]
    refine lv_if_eq (tgt := 23) hx hb dX7_makeAuthor_16 (by decide) (fun c_16 => ?_) (fun c_16 => ?_)
    · refine lv_iconst (v := 2) hx hb dX7_makeAuthor_23 (by decide) ?_
      refine m_callVi X (ci := 8) rfl hx0 hK hw hZ hS hA (As := [.int 2]) (rest := []) (c_holds l G dce _ M x ad w hm 2) (cwV 1 hts gX7_makeAuthor_X7_holds rfl rfl rfl (by decide +kernel) ⟨Nat.le_of_ble_eq_true rfl, Nat.le_of_ble_eq_true rfl⟩) rfl hl.1 rfl (Nat.le_of_ble_eq_true rfl) dX7_makeAuthor_24 (Nat.le_of_ble_eq_true rfl) (Nat.le_of_ble_eq_true rfl) (fun r6 M5 H locs hp hw hS hz hk => ?_)
      obtain ⟨hrt7, hmt7, hft7⟩ := hp
      rw [hrt7]
      have frt7 := mFr.tr mFr.rf hft7
      have hxt7 : M5 x = some (.inr (8, [.int (rdH (mH w 2)), .ref (ad 1), .ref (ad 2), .ref (ad 3), .ref (ad 4), .ref (ad 5), .ref (ad 6), .ref (ad 7), .ref (ad 8), .ref (ad 9), .ref (ad 10), .ref (ad 11), .ref (ad 12), .ref (ad 13), .int (nI (rdN (mH w 2))), .ref (ad 15)])) := hmt7.1
      rw [show bI (decide ((2 : Int32) = 0)) = 0 from by decide]
      refine lv_if_eq (tgt := 41) hx hb dX7_makeAuthor_27 (by decide) (fun _ => ?_) (fun c_27 => absurd (by decide) c_27)
      refine lv_iconst (v := 0) hx hb dX7_makeAuthor_41 (by decide) ?_
      have hC : aMA si nm = 2 := by simp [aMA, (bI_t c_5), ((bI_0 _).mp c_16), si9]
      exact m_iret X hK hw hS ⟨frt7, Or.inr ⟨by rw [hC]; decide, by rw [hC]; exact hmt7⟩⟩ (by omega) (by omega) dX7_makeAuthor_42
    · refine lv_iconst (v := 0) hx hb dX7_makeAuthor_19 (by decide) ?_
      refine lv_goto (tgt := 24) hx hb dX7_makeAuthor_20 (by decide) ?_
      refine m_callVi X (ci := 8) rfl hx0 hK hw hZ hS hA (As := [.int 0]) (rest := []) (c_holds l G dce _ M x ad w hm 0) (cwV 1 hts gX7_makeAuthor_X7_holds rfl rfl rfl (by decide +kernel) ⟨Nat.le_of_ble_eq_true rfl, Nat.le_of_ble_eq_true rfl⟩) rfl hl.1 rfl (Nat.le_of_ble_eq_true rfl) dX7_makeAuthor_24 (Nat.le_of_ble_eq_true rfl) (Nat.le_of_ble_eq_true rfl) (fun r9 M8 H locs hp hw hS hz hk => ?_)
      obtain ⟨hrt10, hmt10, hft10⟩ := hp
      rw [hrt10]
      have frt10 := mFr.tr mFr.rf hft10
      have hxt10 : M8 x = some (.inr (8, [.int (rdH (mH w 0)), .ref (ad 1), .ref (ad 2), .ref (ad 3), .ref (ad 4), .ref (ad 5), .ref (ad 6), .ref (ad 7), .ref (ad 8), .ref (ad 9), .ref (ad 10), .ref (ad 11), .ref (ad 12), .ref (ad 13), .int (nI (rdN (mH w 0))), .ref (ad 15)])) := hmt10.1
      rw [show bI (decide ((0 : Int32) = 0)) = 1 from by decide]
      refine lv_if_eq (tgt := 41) hx hb dX7_makeAuthor_27 (by decide) (fun c_27 => absurd c_27 (by decide)) (fun _ => ?_)
      refine lv_aload_n hx hb dX7_makeAuthor_30 rfl (lv_at hl 0 rfl) ?_
      refine lv_iload_n hx hb dX7_makeAuthor_31 rfl (lv_at hl 1 rfl) ?_
      refine lv_iconst (v := 0) hx hb dX7_makeAuthor_32 (by decide) ?_
      refine lv_iload_n hx hb dX7_makeAuthor_33 rfl (lv_at hl 2 rfl) ?_
      refine lv_iconst (v := (-1)) hx hb dX7_makeAuthor_34 (by decide) ?_
      refine m_callVi X (ci := 8) rfl hxt10 hK hw hZ hS hA (As := [.int si, .int 0, .int nm, .int (-1)]) (rest := []) (c_makesK l G dce _ M8 x ad (mH w 0) hmt10 i 0 hi (by decide) nm (-1) hlt si ei 0 rfl) (cwV 4 hts gX7_makeAuthor_X7_makes rfl rfl rfl (by decide +kernel) ⟨Nat.le_of_ble_eq_true rfl, Nat.le_of_ble_eq_true rfl⟩) rfl hl.1 rfl (Nat.le_of_ble_eq_true rfl) dX7_makeAuthor_35 (Nat.le_of_ble_eq_true rfl) (Nat.le_of_ble_eq_true rfl) (fun r12 M11 H locs hp hw hS hz hk => ?_)
      obtain ⟨hrt13, hmt13, hft13⟩ := hp
      rw [hrt13]
      have frt13 := mFr.tr frt10 hft13
      have hxt13 : M11 x = some (.inr (8, [.int (rdH (mMk i 0 nm (-1) (mH w 0))), .ref (ad 1), .ref (ad 2), .ref (ad 3), .ref (ad 4), .ref (ad 5), .ref (ad 6), .ref (ad 7), .ref (ad 8), .ref (ad 9), .ref (ad 10), .ref (ad 11), .ref (ad 12), .ref (ad 13), .int (nI (rdN (mMk i 0 nm (-1) (mH w 0)))), .ref (ad 15)])) := hmt13.1
      refine lv_goto (tgt := 42) hx hb dX7_makeAuthor_38 (by decide) ?_
      have hC : aMA si nm = 0 := by simp [aMA, (bI_t c_5), (bI_t c_16), si9]
      exact m_iret X hK hw hS ⟨frt13, Or.inl ⟨hC, i, ⟨hi, ei⟩, bI_t c_16, rfl, hmt13⟩⟩ (by omega) (by omega) dX7_makeAuthor_42
  · refine lv_iconst (v := 1) hx hb dX7_makeAuthor_8 (by decide) ?_
    refine lv_goto (tgt := 24) hx hb dX7_makeAuthor_9 (by decide) ?_
    refine m_callVi X (ci := 8) rfl hx0 hK hw hZ hS hA (As := [.int 1]) (rest := []) (c_holds l G dce _ M x ad w hm 1) (cwV 1 hts gX7_makeAuthor_X7_holds rfl rfl rfl (by decide +kernel) ⟨Nat.le_of_ble_eq_true rfl, Nat.le_of_ble_eq_true rfl⟩) rfl hl.1 rfl (Nat.le_of_ble_eq_true rfl) dX7_makeAuthor_24 (Nat.le_of_ble_eq_true rfl) (Nat.le_of_ble_eq_true rfl) (fun r15 M14 H locs hp hw hS hz hk => ?_)
    obtain ⟨hrt16, hmt16, hft16⟩ := hp
    rw [hrt16]
    have frt16 := mFr.tr mFr.rf hft16
    have hxt16 : M14 x = some (.inr (8, [.int (rdH (mH w 1)), .ref (ad 1), .ref (ad 2), .ref (ad 3), .ref (ad 4), .ref (ad 5), .ref (ad 6), .ref (ad 7), .ref (ad 8), .ref (ad 9), .ref (ad 10), .ref (ad 11), .ref (ad 12), .ref (ad 13), .int (nI (rdN (mH w 1))), .ref (ad 15)])) := hmt16.1
    rw [show bI (decide ((1 : Int32) = 0)) = 0 from by decide]
    refine lv_if_eq (tgt := 41) hx hb dX7_makeAuthor_27 (by decide) (fun _ => ?_) (fun c_27 => absurd (by decide) c_27)
    refine lv_iconst (v := 0) hx hb dX7_makeAuthor_41 (by decide) ?_
    have hC : aMA si nm = 1 := by simp [aMA, ((bI_0 _).mp c_5)]
    exact m_iret X hK hw hS ⟨frt16, Or.inr ⟨by rw [hC]; decide, by rw [hC]; exact hmt16⟩⟩ (by omega) (by omega) dX7_makeAuthor_42
set_option maxHeartbeats 4000000 in
set_option maxRecDepth 100000 in
theorem c_mMakeBook (l : Launch) (G : gG) (dce sz : Nat) (M : gM) (x : Nat) (ad : Nat → Nat) (w : mW) (hm : MW G M x ad w) (si nm au : Int32) (hlt : rdK w 1 < 1024) : mI l yX7_makeBook wsX7_makeBook ({ frames := 2, cells := 0, slots := 0, locals := 48 }) G dce sz M [.ref x, .int si, .int nm, .int au] (fun r M' => mFr x ad M M' ∧ (((aMB w si nm au) = 0 ∧ ∃ i, aS si i ∧ nOK nm = true ∧ mKn w i 0 au = true ∧ r = nI (rdK w 1) ∧ MW G M' x ad (mMk i 1 nm au (mH w 0))) ∨ ((aMB w si nm au) ≠ 0 ∧ MW G M' x ad (mH w (aMB w si nm au))))) (0) (0) := by
  have hx0 : M x = some (.inr (8, [.int (rdH w), .ref (ad 1), .ref (ad 2), .ref (ad 3), .ref (ad 4), .ref (ad 5), .ref (ad 6), .ref (ad 7), .ref (ad 8), .ref (ad 9), .ref (ad 10), .ref (ad 11), .ref (ad 12), .ref (ad 13), .int (nI (rdN w)), .ref (ad 15)])) := hm.1
  refine wMet (Qc := QI G _) (cc := cX7_makeBook) (maxL := 5) (ret := (some .int)) (by decide) rfl (Nat.le_of_ble_eq_true rfl) ?_
  intro p e s m below meth c A ls X hnm hw hK hZ hA hS hsz eA hl
  obtain ⟨hx, hb, hr, hts, hown, hlk, hml⟩ := id X
  have hl : lv_has ls 5 [(0, .ref x), (1, .int si), (2, .int nm), (3, .int au)] := hl
  refine lv_iload_n hx hb dX7_makeBook_0 rfl (lv_at hl 1 rfl) ?_
  refine m_callSi X hK hw hZ hS hA (As := [.int si]) (rest := []) (c_X7_isSession l G dce _ M si) (va_cwS 1 hts gX7_makeBook_X7_isSession rfl rfl rfl (by decide +kernel) ⟨Nat.le_of_ble_eq_true rfl, Nat.le_of_ble_eq_true rfl⟩) rfl hl.1 rfl (Nat.le_of_ble_eq_true rfl) dX7_makeBook_1 (Nat.le_of_ble_eq_true rfl) (Nat.le_of_ble_eq_true rfl) (fun r2 M1 H locs hp hw hS hz hk => ?_)
  rw [hp.2] at hw
  rw [hp.1]
  refine lv_istore (lv' := [(4, .int (bI (sOK si))), (0, .ref x), (1, .int si), (2, .int nm), (3, .int au)]) hx hb dX7_makeBook_4 hl (by decide) rfl (fun ls hl => ?_)
  refine lv_aload_n hx hb dX7_makeBook_6 rfl (lv_at hl 1 rfl) ?_
  refine lv_iload hx hb dX7_makeBook_7 (lv_at hl 0 rfl) ?_
  refine lv_if_ne (tgt := 16) hx hb dX7_makeBook_9 (by decide) (fun c_9 => ?_) (fun c_9 => ?_)
  · obtain ⟨i, hi, ei⟩ := sOK_i (bI_t c_9)
    have si9 : si.toNatClampNeg = i := by rw [ei]; exact nI_clamp (by omega)
    refine lv_iload_n hx hb dX7_makeBook_16 rfl (lv_at hl 3 rfl) ?_
    refine m_callSi X hK hw hZ hS hA (As := [.int nm]) (rest := [.ref x]) (c_X7_isName l G dce _ M nm) (va_cwS 1 hts gX7_makeBook_X7_isName rfl rfl rfl (by decide +kernel) ⟨Nat.le_of_ble_eq_true rfl, Nat.le_of_ble_eq_true rfl⟩) rfl hl.1 rfl (Nat.le_of_ble_eq_true rfl) dX7_makeBook_17 (Nat.le_of_ble_eq_true rfl) (Nat.le_of_ble_eq_true rfl) (fun r4 M3 H locs hp hw hS hz hk => ?_)
    rw [hp.2] at hw
    rw [hp.1]
    refine lv_if_ne (tgt := 27) hx hb dX7_makeBook_20 (by decide) (fun c_20 => ?_) (fun c_20 => ?_)
    · refine lv_aload_n hx hb dX7_makeBook_27 rfl (lv_at hl 1 rfl) ?_
      refine lv_iload_n hx hb dX7_makeBook_28 rfl (lv_at hl 2 rfl) ?_
      refine lv_iconst (v := 0) hx hb dX7_makeBook_29 (by decide) ?_
      refine lv_iload_n hx hb dX7_makeBook_30 rfl (lv_at hl 4 rfl) ?_
      refine m_callVi X (ci := 8) rfl hx0 hK hw hZ hS hA (As := [.int si, .int 0, .int au]) (rest := [.ref x]) (c_knowsK l G dce _ M x ad w hm i 0 hi (by decide) au si ei 0 rfl) (cwV 3 hts gX7_makeBook_X7_knows rfl rfl rfl (by decide +kernel) ⟨Nat.le_of_ble_eq_true rfl, Nat.le_of_ble_eq_true rfl⟩) rfl hl.1 rfl (Nat.le_of_ble_eq_true rfl) dX7_makeBook_31 (Nat.le_of_ble_eq_true rfl) (Nat.le_of_ble_eq_true rfl) (fun r6 M5 H locs hp hw hS hz hk => ?_)
      rw [hp.2] at hw
      rw [hp.1]
      refine lv_if_eq (tgt := 41) hx hb dX7_makeBook_34 (by decide) (fun c_34 => ?_) (fun c_34 => ?_)
      · refine lv_iconst (v := 3) hx hb dX7_makeBook_41 (by decide) ?_
        refine m_callVi X (ci := 8) rfl hx0 hK hw hZ hS hA (As := [.int 3]) (rest := []) (c_holds l G dce _ M x ad w hm 3) (cwV 1 hts gX7_makeBook_X7_holds rfl rfl rfl (by decide +kernel) ⟨Nat.le_of_ble_eq_true rfl, Nat.le_of_ble_eq_true rfl⟩) rfl hl.1 rfl (Nat.le_of_ble_eq_true rfl) dX7_makeBook_42 (Nat.le_of_ble_eq_true rfl) (Nat.le_of_ble_eq_true rfl) (fun r8 M7 H locs hp hw hS hz hk => ?_)
        obtain ⟨hrt9, hmt9, hft9⟩ := hp
        rw [hrt9]
        have frt9 := mFr.tr mFr.rf hft9
        have hxt9 : M7 x = some (.inr (8, [.int (rdH (mH w 3)), .ref (ad 1), .ref (ad 2), .ref (ad 3), .ref (ad 4), .ref (ad 5), .ref (ad 6), .ref (ad 7), .ref (ad 8), .ref (ad 9), .ref (ad 10), .ref (ad 11), .ref (ad 12), .ref (ad 13), .int (nI (rdN (mH w 3))), .ref (ad 15)])) := hmt9.1
        rw [show bI (decide ((3 : Int32) = 0)) = 0 from by decide]
        refine lv_if_ne (tgt := 50) hx hb dX7_makeBook_45 (by decide) (fun c_45 => absurd (by decide) c_45) (fun _ => ?_)
        refine lv_iconst (v := 0) hx hb dX7_makeBook_48 (by decide) ?_
        have hC : aMB w si nm au = 3 := by simp [aMB, (bI_t c_9), (bI_t c_20), ((bI_0 _).mp c_34), si9]
        exact m_iret X hK hw hS ⟨frt9, Or.inr ⟨by rw [hC]; decide, by rw [hC]; exact hmt9⟩⟩ (by omega) (by omega) dX7_makeBook_49
      · refine lv_iconst (v := 0) hx hb dX7_makeBook_37 (by decide) ?_
        refine lv_goto (tgt := 42) hx hb dX7_makeBook_38 (by decide) ?_
        refine m_callVi X (ci := 8) rfl hx0 hK hw hZ hS hA (As := [.int 0]) (rest := []) (c_holds l G dce _ M x ad w hm 0) (cwV 1 hts gX7_makeBook_X7_holds rfl rfl rfl (by decide +kernel) ⟨Nat.le_of_ble_eq_true rfl, Nat.le_of_ble_eq_true rfl⟩) rfl hl.1 rfl (Nat.le_of_ble_eq_true rfl) dX7_makeBook_42 (Nat.le_of_ble_eq_true rfl) (Nat.le_of_ble_eq_true rfl) (fun r11 M10 H locs hp hw hS hz hk => ?_)
        obtain ⟨hrt12, hmt12, hft12⟩ := hp
        rw [hrt12]
        have frt12 := mFr.tr mFr.rf hft12
        have hxt12 : M10 x = some (.inr (8, [.int (rdH (mH w 0)), .ref (ad 1), .ref (ad 2), .ref (ad 3), .ref (ad 4), .ref (ad 5), .ref (ad 6), .ref (ad 7), .ref (ad 8), .ref (ad 9), .ref (ad 10), .ref (ad 11), .ref (ad 12), .ref (ad 13), .int (nI (rdN (mH w 0))), .ref (ad 15)])) := hmt12.1
        rw [show bI (decide ((0 : Int32) = 0)) = 1 from by decide]
        refine lv_if_ne (tgt := 50) hx hb dX7_makeBook_45 (by decide) (fun _ => ?_) (fun c_45 => absurd c_45 (by decide))
        refine lv_aload_n hx hb dX7_makeBook_50 rfl (lv_at hl 1 rfl) ?_
        refine lv_iload_n hx hb dX7_makeBook_51 rfl (lv_at hl 2 rfl) ?_
        refine lv_iconst (v := 1) hx hb dX7_makeBook_52 (by decide) ?_
        refine lv_iload_n hx hb dX7_makeBook_53 rfl (lv_at hl 3 rfl) ?_
        refine lv_iload_n hx hb dX7_makeBook_54 rfl (lv_at hl 4 rfl) ?_
        refine m_callVi X (ci := 8) rfl hxt12 hK hw hZ hS hA (As := [.int si, .int 1, .int nm, .int au]) (rest := []) (c_makesK l G dce _ M10 x ad (mH w 0) hmt12 i 1 hi (by decide) nm au hlt si ei 1 rfl) (cwV 4 hts gX7_makeBook_X7_makes rfl rfl rfl (by decide +kernel) ⟨Nat.le_of_ble_eq_true rfl, Nat.le_of_ble_eq_true rfl⟩) rfl hl.1 rfl (Nat.le_of_ble_eq_true rfl) dX7_makeBook_55 (Nat.le_of_ble_eq_true rfl) (Nat.le_of_ble_eq_true rfl) (fun r14 M13 H locs hp hw hS hz hk => ?_)
        obtain ⟨hrt15, hmt15, hft15⟩ := hp
        rw [hrt15]
        have frt15 := mFr.tr frt12 hft15
        have hxt15 : M13 x = some (.inr (8, [.int (rdH (mMk i 1 nm au (mH w 0))), .ref (ad 1), .ref (ad 2), .ref (ad 3), .ref (ad 4), .ref (ad 5), .ref (ad 6), .ref (ad 7), .ref (ad 8), .ref (ad 9), .ref (ad 10), .ref (ad 11), .ref (ad 12), .ref (ad 13), .int (nI (rdN (mMk i 1 nm au (mH w 0)))), .ref (ad 15)])) := hmt15.1
        have hC : aMB w si nm au = 0 := by simp [aMB, (bI_t c_9), (bI_t c_20), (bI_t c_34), si9]
        exact m_iret X hK hw hS ⟨frt15, Or.inl ⟨hC, i, ⟨hi, ei⟩, bI_t c_20, bI_t c_34, rfl, hmt15⟩⟩ (by omega) (by omega) dX7_makeBook_58
    · refine lv_iconst (v := 2) hx hb dX7_makeBook_23 (by decide) ?_
      refine lv_goto (tgt := 42) hx hb dX7_makeBook_24 (by decide) ?_
      refine m_callVi X (ci := 8) rfl hx0 hK hw hZ hS hA (As := [.int 2]) (rest := []) (c_holds l G dce _ M x ad w hm 2) (cwV 1 hts gX7_makeBook_X7_holds rfl rfl rfl (by decide +kernel) ⟨Nat.le_of_ble_eq_true rfl, Nat.le_of_ble_eq_true rfl⟩) rfl hl.1 rfl (Nat.le_of_ble_eq_true rfl) dX7_makeBook_42 (Nat.le_of_ble_eq_true rfl) (Nat.le_of_ble_eq_true rfl) (fun r17 M16 H locs hp hw hS hz hk => ?_)
      obtain ⟨hrt18, hmt18, hft18⟩ := hp
      rw [hrt18]
      have frt18 := mFr.tr mFr.rf hft18
      have hxt18 : M16 x = some (.inr (8, [.int (rdH (mH w 2)), .ref (ad 1), .ref (ad 2), .ref (ad 3), .ref (ad 4), .ref (ad 5), .ref (ad 6), .ref (ad 7), .ref (ad 8), .ref (ad 9), .ref (ad 10), .ref (ad 11), .ref (ad 12), .ref (ad 13), .int (nI (rdN (mH w 2))), .ref (ad 15)])) := hmt18.1
      rw [show bI (decide ((2 : Int32) = 0)) = 0 from by decide]
      refine lv_if_ne (tgt := 50) hx hb dX7_makeBook_45 (by decide) (fun c_45 => absurd (by decide) c_45) (fun _ => ?_)
      refine lv_iconst (v := 0) hx hb dX7_makeBook_48 (by decide) ?_
      have hC : aMB w si nm au = 2 := by simp [aMB, (bI_t c_9), ((bI_0 _).mp c_20), si9]
      exact m_iret X hK hw hS ⟨frt18, Or.inr ⟨by rw [hC]; decide, by rw [hC]; exact hmt18⟩⟩ (by omega) (by omega) dX7_makeBook_49
  · refine lv_iconst (v := 1) hx hb dX7_makeBook_12 (by decide) ?_
    refine lv_goto (tgt := 42) hx hb dX7_makeBook_13 (by decide) ?_
    refine m_callVi X (ci := 8) rfl hx0 hK hw hZ hS hA (As := [.int 1]) (rest := []) (c_holds l G dce _ M x ad w hm 1) (cwV 1 hts gX7_makeBook_X7_holds rfl rfl rfl (by decide +kernel) ⟨Nat.le_of_ble_eq_true rfl, Nat.le_of_ble_eq_true rfl⟩) rfl hl.1 rfl (Nat.le_of_ble_eq_true rfl) dX7_makeBook_42 (Nat.le_of_ble_eq_true rfl) (Nat.le_of_ble_eq_true rfl) (fun r20 M19 H locs hp hw hS hz hk => ?_)
    obtain ⟨hrt21, hmt21, hft21⟩ := hp
    rw [hrt21]
    have frt21 := mFr.tr mFr.rf hft21
    have hxt21 : M19 x = some (.inr (8, [.int (rdH (mH w 1)), .ref (ad 1), .ref (ad 2), .ref (ad 3), .ref (ad 4), .ref (ad 5), .ref (ad 6), .ref (ad 7), .ref (ad 8), .ref (ad 9), .ref (ad 10), .ref (ad 11), .ref (ad 12), .ref (ad 13), .int (nI (rdN (mH w 1))), .ref (ad 15)])) := hmt21.1
    rw [show bI (decide ((1 : Int32) = 0)) = 0 from by decide]
    refine lv_if_ne (tgt := 50) hx hb dX7_makeBook_45 (by decide) (fun c_45 => absurd (by decide) c_45) (fun _ => ?_)
    refine lv_iconst (v := 0) hx hb dX7_makeBook_48 (by decide) ?_
    have hC : aMB w si nm au = 1 := by simp [aMB, ((bI_0 _).mp c_9)]
    exact m_iret X hK hw hS ⟨frt21, Or.inr ⟨by rw [hC]; decide, by rw [hC]; exact hmt21⟩⟩ (by omega) (by omega) dX7_makeBook_49
theorem c_takesKy (l : Launch) (G : gG) (dce sz : Nat) (M : gM) (x : Nat) (ad : Nat → Nat) (w : mW) (hm : MW G M x ad w) (i k j : Nat) (hi : i < 3) (hk2 : k < 2) (hj2 : j < 1024) (si : Int32) (hsi : si = nI i) (kd : Int32) (hkd : kd = nI k) (ky : Int32) (hky : ky = nI j) : mV l yX7_takes wsX7_takes ({ frames := 1, cells := 0, slots := 0, locals := 22 }) G dce sz M [.ref x, .int si, .int kd, .int ky] (fun M' => MW G M' x ad (mTk i k j w) ∧ mFr x ad M M') (0) (0) := by
  subst hsi
  subst hkd
  subst hky
  exact c_takes l G dce sz M x ad w hm i k j hi hk2 hj2
set_option maxHeartbeats 4000000 in
set_option maxRecDepth 100000 in
theorem c_mFind (l : Launch) (G : gG) (dce sz : Nat) (M : gM) (x : Nat) (ad : Nat → Nat) (w : mW) (hm : MW G M x ad w) (si kd ky : Int32) : mI l yX7_find wsX7_find ({ frames := 2, cells := 0, slots := 0, locals := 47 }) G dce sz M [.ref x, .int si, .int kd, .int ky] (fun r M' => mFr x ad M M' ∧ (((aFi si kd) = 0 ∧ ∃ i k, aS si i ∧ aK kd k ∧ r = bI (mKn (mFi i k ky (mH w 0)) i k ky) ∧ MW G M' x ad (mFi i k ky (mH w 0))) ∨ ((aFi si kd) ≠ 0 ∧ MW G M' x ad (mH w (aFi si kd))))) (0) (0) := by
  have hx0 : M x = some (.inr (8, [.int (rdH w), .ref (ad 1), .ref (ad 2), .ref (ad 3), .ref (ad 4), .ref (ad 5), .ref (ad 6), .ref (ad 7), .ref (ad 8), .ref (ad 9), .ref (ad 10), .ref (ad 11), .ref (ad 12), .ref (ad 13), .int (nI (rdN w)), .ref (ad 15)])) := hm.1
  refine wMet (Qc := QI G _) (cc := cX7_find) (maxL := 4) (ret := (some .boolean)) (by decide) rfl (Nat.le_of_ble_eq_true rfl) ?_
  intro p e s m below meth c A ls X hnm hw hK hZ hA hS hsz eA hl
  obtain ⟨hx, hb, hr, hts, hown, hlk, hml⟩ := id X
  have hl : lv_has ls 4 [(0, .ref x), (1, .int si), (2, .int kd), (3, .int ky)] := hl
  have iX7 : ∀ w ∈ wsX70, w ∈ wsX7_find := by decide +kernel
  refine lv_aload_n hx hb dX7_find_0 rfl (lv_at hl 0 rfl) ?_
  refine lv_iload_n hx hb dX7_find_1 rfl (lv_at hl 1 rfl) ?_
  refine m_callSi X hK hw hZ hS hA (As := [.int si]) (rest := [.ref x]) (c_X7_isSession l G dce _ M si) (va_cwS 1 hts gX7_find_X7_isSession rfl rfl rfl (by decide +kernel) ⟨Nat.le_of_ble_eq_true rfl, Nat.le_of_ble_eq_true rfl⟩) rfl hl.1 rfl (Nat.le_of_ble_eq_true rfl) dX7_find_2 (Nat.le_of_ble_eq_true rfl) (Nat.le_of_ble_eq_true rfl) (fun r2 M1 H locs hp hw hS hz hk => ?_)
  rw [hp.2] at hw
  rw [hp.1]
  refine lv_if_ne (tgt := 12) hx hb dX7_find_5 (by decide) (fun c_5 => ?_) (fun c_5 => ?_)
  · obtain ⟨i, hi, ei⟩ := sOK_i (bI_t c_5)
    have si9 : si.toNatClampNeg = i := by rw [ei]; exact nI_clamp (by omega)
    refine lv_iload_n hx hb dX7_find_12 rfl (lv_at hl 2 rfl) ?_
    refine m_callSi X hK hw hZ hS hA (As := [.int kd]) (rest := [.ref x]) (c_X7_isKind l G dce _ M kd) (va_cwS 1 hts gX7_find_X7_isKind rfl rfl rfl (by decide +kernel) ⟨Nat.le_of_ble_eq_true rfl, Nat.le_of_ble_eq_true rfl⟩) rfl hl.1 rfl (Nat.le_of_ble_eq_true rfl) dX7_find_13 (Nat.le_of_ble_eq_true rfl) (Nat.le_of_ble_eq_true rfl) (fun r4 M3 H locs hp hw hS hz hk => ?_)
    rw [hp.2] at hw
    rw [hp.1]
    refine lv_if_eq (tgt := 23) hx hb dX7_find_16 (by decide) (fun c_16 => ?_) (fun c_16 => ?_)
    · refine lv_iconst (v := 2) hx hb dX7_find_23 (by decide) ?_
      refine m_callVi X (ci := 8) rfl hx0 hK hw hZ hS hA (As := [.int 2]) (rest := []) (c_holds l G dce _ M x ad w hm 2) (cwV 1 hts gX7_find_X7_holds rfl rfl rfl (by decide +kernel) ⟨Nat.le_of_ble_eq_true rfl, Nat.le_of_ble_eq_true rfl⟩) rfl hl.1 rfl (Nat.le_of_ble_eq_true rfl) dX7_find_24 (Nat.le_of_ble_eq_true rfl) (Nat.le_of_ble_eq_true rfl) (fun r6 M5 H locs hp hw hS hz hk => ?_)
      obtain ⟨hrt7, hmt7, hft7⟩ := hp
      rw [hrt7]
      have frt7 := mFr.tr mFr.rf hft7
      have hxt7 : M5 x = some (.inr (8, [.int (rdH (mH w 2)), .ref (ad 1), .ref (ad 2), .ref (ad 3), .ref (ad 4), .ref (ad 5), .ref (ad 6), .ref (ad 7), .ref (ad 8), .ref (ad 9), .ref (ad 10), .ref (ad 11), .ref (ad 12), .ref (ad 13), .int (nI (rdN (mH w 2))), .ref (ad 15)])) := hmt7.1
      rw [show bI (decide ((2 : Int32) = 0)) = 0 from by decide]
      refine lv_if_ne (tgt := 32) hx hb dX7_find_27 (by decide) (fun c_27 => absurd (by decide) c_27) (fun _ => ?_)
      refine lv_iconst (v := 0) hx hb dX7_find_30 (by decide) ?_
      have hC : aFi si kd = 2 := by simp [aFi, (bI_t c_5), ((bI_0 _).mp c_16)]
      exact m_zret X (by decide) hK hw hS ⟨frt7, Or.inr ⟨by rw [hC]; decide, by rw [hC]; exact hmt7⟩⟩ (by omega) (by omega) dX7_find_31
    · obtain ⟨k, hk2, ek⟩ := kOK_k (bI_t c_16)
      have kd9 : kd.toNatClampNeg = k := by rw [ek]; exact nI_clamp (by omega)
      refine lv_iconst (v := 0) hx hb dX7_find_19 (by decide) ?_
      refine lv_goto (tgt := 24) hx hb dX7_find_20 (by decide) ?_
      refine m_callVi X (ci := 8) rfl hx0 hK hw hZ hS hA (As := [.int 0]) (rest := []) (c_holds l G dce _ M x ad w hm 0) (cwV 1 hts gX7_find_X7_holds rfl rfl rfl (by decide +kernel) ⟨Nat.le_of_ble_eq_true rfl, Nat.le_of_ble_eq_true rfl⟩) rfl hl.1 rfl (Nat.le_of_ble_eq_true rfl) dX7_find_24 (Nat.le_of_ble_eq_true rfl) (Nat.le_of_ble_eq_true rfl) (fun r9 M8 H locs hp hw hS hz hk => ?_)
      obtain ⟨hrt10, hmt10, hft10⟩ := hp
      rw [hrt10]
      have frt10 := mFr.tr mFr.rf hft10
      have hxt10 : M8 x = some (.inr (8, [.int (rdH (mH w 0)), .ref (ad 1), .ref (ad 2), .ref (ad 3), .ref (ad 4), .ref (ad 5), .ref (ad 6), .ref (ad 7), .ref (ad 8), .ref (ad 9), .ref (ad 10), .ref (ad 11), .ref (ad 12), .ref (ad 13), .int (nI (rdN (mH w 0))), .ref (ad 15)])) := hmt10.1
      rw [show bI (decide ((0 : Int32) = 0)) = 1 from by decide]
      refine lv_if_ne (tgt := 32) hx hb dX7_find_27 (by decide) (fun _ => ?_) (fun c_27 => absurd c_27 (by decide))
      refine lv_aload_n hx hb dX7_find_32 rfl (lv_at hl 0 rfl) ?_
      refine lv_iload_n hx hb dX7_find_33 rfl (lv_at hl 2 rfl) ?_
      refine lv_iload_n hx hb dX7_find_34 rfl (lv_at hl 3 rfl) ?_
      refine m_callVi X (ci := 8) rfl hxt10 hK hw hZ hS hA (As := [.int kd, .int ky]) (rest := []) (c_hasRowK l G dce _ M8 x ad (mH w 0) hmt10 k hk2 ky kd ek) (cwV 2 hts gX7_find_X7_hasRow rfl rfl rfl (by decide +kernel) ⟨Nat.le_of_ble_eq_true rfl, Nat.le_of_ble_eq_true rfl⟩) rfl hl.1 rfl (Nat.le_of_ble_eq_true rfl) dX7_find_35 (Nat.le_of_ble_eq_true rfl) (Nat.le_of_ble_eq_true rfl) (fun r12 M11 H locs hp hw hS hz hk => ?_)
      rw [hp.2] at hw
      rw [hp.1]
      refine lv_if_eq (tgt := 62) hx hb dX7_find_38 (by decide) (fun c_38 => ?_) (fun c_38 => ?_)
      · have hF : mFi i k ky (mH w 0) = (mH w 0) := by unfold mFi; rw [if_neg (by simp [((bI_0 _).mp c_38)])]
        refine lv_aload_n hx hb dX7_find_62 rfl (lv_at hl 0 rfl) ?_
        refine lv_iload_n hx hb dX7_find_63 rfl (lv_at hl 1 rfl) ?_
        refine lv_iload_n hx hb dX7_find_64 rfl (lv_at hl 2 rfl) ?_
        refine lv_iload_n hx hb dX7_find_65 rfl (lv_at hl 3 rfl) ?_
        refine m_callVi X (ci := 8) rfl hxt10 hK hw hZ hS hA (As := [.int si, .int kd, .int ky]) (rest := []) (c_knowsK l G dce _ M8 x ad (mH w 0) hmt10 i k hi hk2 ky si ei kd ek) (cwV 3 hts gX7_find_X7_knows rfl rfl rfl (by decide +kernel) ⟨Nat.le_of_ble_eq_true rfl, Nat.le_of_ble_eq_true rfl⟩) rfl hl.1 rfl (Nat.le_of_ble_eq_true rfl) dX7_find_66 (Nat.le_of_ble_eq_true rfl) (Nat.le_of_ble_eq_true rfl) (fun r14 M13 H locs hp hw hS hz hk => ?_)
        rw [hp.2] at hw
        rw [hp.1]
        have hC : aFi si kd = 0 := by simp [aFi, (bI_t c_5), (bI_t c_16)]
        exact m_zret X (bI_nar _) hK hw hS ⟨frt10, Or.inl ⟨hC, i, k, ⟨hi, ei⟩, ⟨hk2, ek⟩, by rw [hF], by rw [hF]; exact hmt10⟩⟩ (by omega) (by omega) dX7_find_69
      · obtain ⟨j, hjk, ej⟩ := mHr_in (hmt10.kb hk2) (bI_t c_38)
        have hjb := hmt10.kb hk2
        have hjk : j < rdK (mH w 0) k := hjk
        have hj2 : j < 1024 := by omega
        have ky9 : ky.toNatClampNeg = j := by rw [ej]; exact nI_clamp (by omega)
        refine lv_aload_n hx hb dX7_find_41 rfl (lv_at hl 0 rfl) ?_
        refine m_get X iX7 hK hw hxt10 rfl 7 (by decide) (ref := "ObjectMapperModel") (by decide +kernel) (Or.inl rfl) rfl dX7_find_42 ?_
        refine lv_iload_n hx hb dX7_find_45 rfl (lv_at hl 1 rfl) ?_
        refine lv_iload_n hx hb dX7_find_46 rfl (lv_at hl 2 rfl) ?_
        refine lv_iload_n hx hb dX7_find_47 rfl (lv_at hl 3 rfl) ?_
        refine m_callSi X hK hw hZ hS hA (As := [.int si, .int kd, .int ky]) (rest := [.ref (ad 7)]) (c_atK l G dce _ M8 i k j si ei kd ek ky ej) (va_cwS 3 hts gX7_find_X7_at rfl rfl rfl (by decide +kernel) ⟨Nat.le_of_ble_eq_true rfl, Nat.le_of_ble_eq_true rfl⟩) rfl hl.1 rfl (Nat.le_of_ble_eq_true rfl) dX7_find_48 (Nat.le_of_ble_eq_true rfl) (Nat.le_of_ble_eq_true rfl) (fun r16 M15 H locs hp hw hS hz hk => ?_)
        rw [hp.2] at hw
        rw [hp.1]
        have ix17 : ((nI (aP i k j)) : Int32) = nI (aP i k j) := rfl
        have ix17b : (aP i k j) < 6144 := (aP_lt hi hk2 hj2)
        refine m_iald X hK hw (hmt10.a7) (i := (nI (aP i k j))) (by rw [ix17]; exact vp_in_nI ix17b (by decide)) dX7_find_51 ?_
        rw [show ((nI (aP i k j)) : Int32).toNatClampNeg = (aP i k j) from by rw [ix17]; exact nI_clamp (by omega)]
        refine lv_if_ne (tgt := 62) hx hb dX7_find_52 (by decide) (fun c_52 => ?_) (fun c_52 => ?_)
        · have hF : mFi i k ky (mH w 0) = (mH w 0) := by unfold mFi; rw [if_neg (by simp [(bI_t c_38), c_52, ky9])]
          refine lv_aload_n hx hb dX7_find_62 rfl (lv_at hl 0 rfl) ?_
          refine lv_iload_n hx hb dX7_find_63 rfl (lv_at hl 1 rfl) ?_
          refine lv_iload_n hx hb dX7_find_64 rfl (lv_at hl 2 rfl) ?_
          refine lv_iload_n hx hb dX7_find_65 rfl (lv_at hl 3 rfl) ?_
          refine m_callVi X (ci := 8) rfl hxt10 hK hw hZ hS hA (As := [.int si, .int kd, .int ky]) (rest := []) (c_knowsK l G dce _ M8 x ad (mH w 0) hmt10 i k hi hk2 ky si ei kd ek) (cwV 3 hts gX7_find_X7_knows rfl rfl rfl (by decide +kernel) ⟨Nat.le_of_ble_eq_true rfl, Nat.le_of_ble_eq_true rfl⟩) rfl hl.1 rfl (Nat.le_of_ble_eq_true rfl) dX7_find_66 (Nat.le_of_ble_eq_true rfl) (Nat.le_of_ble_eq_true rfl) (fun r19 M18 H locs hp hw hS hz hk => ?_)
          rw [hp.2] at hw
          rw [hp.1]
          have hC : aFi si kd = 0 := by simp [aFi, (bI_t c_5), (bI_t c_16)]
          exact m_zret X (bI_nar _) hK hw hS ⟨frt10, Or.inl ⟨hC, i, k, ⟨hi, ei⟩, ⟨hk2, ek⟩, by rw [hF], by rw [hF]; exact hmt10⟩⟩ (by omega) (by omega) dX7_find_69
        · refine lv_aload_n hx hb dX7_find_55 rfl (lv_at hl 0 rfl) ?_
          refine lv_iload_n hx hb dX7_find_56 rfl (lv_at hl 1 rfl) ?_
          refine lv_iload_n hx hb dX7_find_57 rfl (lv_at hl 2 rfl) ?_
          refine lv_iload_n hx hb dX7_find_58 rfl (lv_at hl 3 rfl) ?_
          refine m_callVv X (ci := 8) rfl hxt10 hK hw hZ hS hA (As := [.int si, .int kd, .int ky]) (rest := []) (c_takesKy l G dce _ M8 x ad (mH w 0) hmt10 i k j hi hk2 hj2 si ei kd ek ky ej) (cwV 3 hts gX7_find_X7_takes rfl rfl rfl (by decide +kernel) ⟨Nat.le_of_ble_eq_true rfl, Nat.le_of_ble_eq_true rfl⟩) rfl hl.1 rfl (Nat.le_of_ble_eq_true rfl) dX7_find_59 (Nat.le_of_ble_eq_true rfl) (Nat.le_of_ble_eq_true rfl) (fun M20 H locs hp hw hS hz hk => ?_)
          obtain ⟨hmt21, hft21⟩ := hp
          have frt21 := mFr.tr frt10 hft21
          have hxt21 : M20 x = some (.inr (8, [.int (rdH (mTk i k j (mH w 0))), .ref (ad 1), .ref (ad 2), .ref (ad 3), .ref (ad 4), .ref (ad 5), .ref (ad 6), .ref (ad 7), .ref (ad 8), .ref (ad 9), .ref (ad 10), .ref (ad 11), .ref (ad 12), .ref (ad 13), .int (nI (rdN (mTk i k j (mH w 0)))), .ref (ad 15)])) := hmt21.1
          have hF : mFi i k ky (mH w 0) = (mTk i k j (mH w 0)) := by unfold mFi; rw [if_pos (by simp [(bI_t c_38), c_52, ky9]), ky9]
          refine lv_aload_n hx hb dX7_find_62 rfl (lv_at hl 0 rfl) ?_
          refine lv_iload_n hx hb dX7_find_63 rfl (lv_at hl 1 rfl) ?_
          refine lv_iload_n hx hb dX7_find_64 rfl (lv_at hl 2 rfl) ?_
          refine lv_iload_n hx hb dX7_find_65 rfl (lv_at hl 3 rfl) ?_
          refine m_callVi X (ci := 8) rfl hxt21 hK hw hZ hS hA (As := [.int si, .int kd, .int ky]) (rest := []) (c_knowsK l G dce _ M20 x ad (mTk i k j (mH w 0)) hmt21 i k hi hk2 ky si ei kd ek) (cwV 3 hts gX7_find_X7_knows rfl rfl rfl (by decide +kernel) ⟨Nat.le_of_ble_eq_true rfl, Nat.le_of_ble_eq_true rfl⟩) rfl hl.1 rfl (Nat.le_of_ble_eq_true rfl) dX7_find_66 (Nat.le_of_ble_eq_true rfl) (Nat.le_of_ble_eq_true rfl) (fun r23 M22 H locs hp hw hS hz hk => ?_)
          rw [hp.2] at hw
          rw [hp.1]
          have hC : aFi si kd = 0 := by simp [aFi, (bI_t c_5), (bI_t c_16)]
          exact m_zret X (bI_nar _) hK hw hS ⟨frt21, Or.inl ⟨hC, i, k, ⟨hi, ei⟩, ⟨hk2, ek⟩, by rw [hF], by rw [hF]; exact hmt21⟩⟩ (by omega) (by omega) dX7_find_69
  · refine lv_iconst (v := 1) hx hb dX7_find_8 (by decide) ?_
    refine lv_goto (tgt := 24) hx hb dX7_find_9 (by decide) ?_
    refine m_callVi X (ci := 8) rfl hx0 hK hw hZ hS hA (As := [.int 1]) (rest := []) (c_holds l G dce _ M x ad w hm 1) (cwV 1 hts gX7_find_X7_holds rfl rfl rfl (by decide +kernel) ⟨Nat.le_of_ble_eq_true rfl, Nat.le_of_ble_eq_true rfl⟩) rfl hl.1 rfl (Nat.le_of_ble_eq_true rfl) dX7_find_24 (Nat.le_of_ble_eq_true rfl) (Nat.le_of_ble_eq_true rfl) (fun r25 M24 H locs hp hw hS hz hk => ?_)
    obtain ⟨hrt26, hmt26, hft26⟩ := hp
    rw [hrt26]
    have frt26 := mFr.tr mFr.rf hft26
    have hxt26 : M24 x = some (.inr (8, [.int (rdH (mH w 1)), .ref (ad 1), .ref (ad 2), .ref (ad 3), .ref (ad 4), .ref (ad 5), .ref (ad 6), .ref (ad 7), .ref (ad 8), .ref (ad 9), .ref (ad 10), .ref (ad 11), .ref (ad 12), .ref (ad 13), .int (nI (rdN (mH w 1))), .ref (ad 15)])) := hmt26.1
    rw [show bI (decide ((1 : Int32) = 0)) = 0 from by decide]
    refine lv_if_ne (tgt := 32) hx hb dX7_find_27 (by decide) (fun c_27 => absurd (by decide) c_27) (fun _ => ?_)
    refine lv_iconst (v := 0) hx hb dX7_find_30 (by decide) ?_
    have hC : aFi si kd = 1 := by simp [aFi, ((bI_0 _).mp c_5)]
    exact m_zret X (by decide) hK hw hS ⟨frt26, Or.inr ⟨by rw [hC]; decide, by rw [hC]; exact hmt26⟩⟩ (by omega) (by omega) dX7_find_31
set_option maxHeartbeats 4000000 in
set_option maxRecDepth 100000 in
theorem c_mBooks (l : Launch) (G : gG) (dce sz : Nat) (M : gM) (x : Nat) (ad : Nat → Nat) (w : mW) (hm : MW G M x ad w) (si au : Int32) : mI l yX7_books wsX7_books ({ frames := 3, cells := 0, slots := 0, locals := 72 }) G dce sz M [.ref x, .int si, .int au] (fun r M' => mFr x ad M M' ∧ (((aBk w si au) = 0 ∧ ∃ i, aS si i ∧ mKn w i 0 au = true ∧ r = nI (cnt (fun j => mKn (itm (mLd i 1 au) (rdK w 1) (mH w 0)) i 1 (nI j) && decide (rdT (itm (mLd i 1 au) (rdK w 1) (mH w 0)) 10 (aP i 1 j) = au)) (rdK w 1)) ∧ MW G M' x ad (itm (mLd i 1 au) (rdK w 1) (mH w 0))) ∨ ((aBk w si au) ≠ 0 ∧ MW G M' x ad (mH w (aBk w si au))))) (0) (0) := by
  have hx0 : M x = some (.inr (8, [.int (rdH w), .ref (ad 1), .ref (ad 2), .ref (ad 3), .ref (ad 4), .ref (ad 5), .ref (ad 6), .ref (ad 7), .ref (ad 8), .ref (ad 9), .ref (ad 10), .ref (ad 11), .ref (ad 12), .ref (ad 13), .int (nI (rdN w)), .ref (ad 15)])) := hm.1
  refine wMet (Qc := QI G _) (cc := cX7_books) (maxL := 4) (ret := (some .int)) (by decide) rfl (Nat.le_of_ble_eq_true rfl) ?_
  intro p e s m below meth c A ls X hnm hw hK hZ hA hS hsz eA hl
  obtain ⟨hx, hb, hr, hts, hown, hlk, hml⟩ := id X
  have hl : lv_has ls 4 [(0, .ref x), (1, .int si), (2, .int au)] := hl
  refine lv_iload_n hx hb dX7_books_0 rfl (lv_at hl 1 rfl) ?_
  refine m_callSi X hK hw hZ hS hA (As := [.int si]) (rest := []) (c_X7_isSession l G dce _ M si) (va_cwS 1 hts gX7_books_X7_isSession rfl rfl rfl (by decide +kernel) ⟨Nat.le_of_ble_eq_true rfl, Nat.le_of_ble_eq_true rfl⟩) rfl hl.1 rfl (Nat.le_of_ble_eq_true rfl) dX7_books_1 (Nat.le_of_ble_eq_true rfl) (Nat.le_of_ble_eq_true rfl) (fun r2 M1 H locs hp hw hS hz hk => ?_)
  rw [hp.2] at hw
  rw [hp.1]
  refine lv_istore_n (lv' := [(3, .int (bI (sOK si))), (0, .ref x), (1, .int si), (2, .int au)]) hx hb dX7_books_4 rfl hl (by decide) rfl (fun ls hl => ?_)
  refine lv_aload_n hx hb dX7_books_5 rfl (lv_at hl 1 rfl) ?_
  refine lv_iload_n hx hb dX7_books_6 rfl (lv_at hl 0 rfl) ?_
  refine lv_if_ne (tgt := 14) hx hb dX7_books_7 (by decide) (fun c_7 => ?_) (fun c_7 => ?_)
  · obtain ⟨i, hi, ei⟩ := sOK_i (bI_t c_7)
    have si9 : si.toNatClampNeg = i := by rw [ei]; exact nI_clamp (by omega)
    refine lv_aload_n hx hb dX7_books_14 rfl (lv_at hl 1 rfl) ?_
    refine lv_iload_n hx hb dX7_books_15 rfl (lv_at hl 2 rfl) ?_
    refine lv_iconst (v := 0) hx hb dX7_books_16 (by decide) ?_
    refine lv_iload_n hx hb dX7_books_17 rfl (lv_at hl 3 rfl) ?_
    refine m_callVi X (ci := 8) rfl hx0 hK hw hZ hS hA (As := [.int si, .int 0, .int au]) (rest := [.ref x]) (c_knowsK l G dce _ M x ad w hm i 0 hi (by decide) au si ei 0 rfl) (cwV 3 hts gX7_books_X7_knows rfl rfl rfl (by decide +kernel) ⟨Nat.le_of_ble_eq_true rfl, Nat.le_of_ble_eq_true rfl⟩) rfl hl.1 rfl (Nat.le_of_ble_eq_true rfl) dX7_books_18 (Nat.le_of_ble_eq_true rfl) (Nat.le_of_ble_eq_true rfl) (fun r4 M3 H locs hp hw hS hz hk => ?_)
    rw [hp.2] at hw
    rw [hp.1]
    refine lv_if_eq (tgt := 28) hx hb dX7_books_21 (by decide) (fun c_21 => ?_) (fun c_21 => ?_)
    · refine lv_iconst (v := 2) hx hb dX7_books_28 (by decide) ?_
      refine m_callVi X (ci := 8) rfl hx0 hK hw hZ hS hA (As := [.int 2]) (rest := []) (c_holds l G dce _ M x ad w hm 2) (cwV 1 hts gX7_books_X7_holds rfl rfl rfl (by decide +kernel) ⟨Nat.le_of_ble_eq_true rfl, Nat.le_of_ble_eq_true rfl⟩) rfl hl.1 rfl (Nat.le_of_ble_eq_true rfl) dX7_books_29 (Nat.le_of_ble_eq_true rfl) (Nat.le_of_ble_eq_true rfl) (fun r6 M5 H locs hp hw hS hz hk => ?_)
      obtain ⟨hrt7, hmt7, hft7⟩ := hp
      rw [hrt7]
      have frt7 := mFr.tr mFr.rf hft7
      have hxt7 : M5 x = some (.inr (8, [.int (rdH (mH w 2)), .ref (ad 1), .ref (ad 2), .ref (ad 3), .ref (ad 4), .ref (ad 5), .ref (ad 6), .ref (ad 7), .ref (ad 8), .ref (ad 9), .ref (ad 10), .ref (ad 11), .ref (ad 12), .ref (ad 13), .int (nI (rdN (mH w 2))), .ref (ad 15)])) := hmt7.1
      rw [show bI (decide ((2 : Int32) = 0)) = 0 from by decide]
      refine lv_if_ne (tgt := 37) hx hb dX7_books_32 (by decide) (fun c_32 => absurd (by decide) c_32) (fun _ => ?_)
      refine lv_iconst (v := 0) hx hb dX7_books_35 (by decide) ?_
      have hC : aBk w si au = 2 := by simp [aBk, (bI_t c_7), ((bI_0 _).mp c_21), si9]
      exact m_iret X hK hw hS ⟨frt7, Or.inr ⟨by rw [hC]; decide, by rw [hC]; exact hmt7⟩⟩ (by omega) (by omega) dX7_books_36
    · refine lv_iconst (v := 0) hx hb dX7_books_24 (by decide) ?_
      refine lv_goto (tgt := 29) hx hb dX7_books_25 (by decide) ?_
      refine m_callVi X (ci := 8) rfl hx0 hK hw hZ hS hA (As := [.int 0]) (rest := []) (c_holds l G dce _ M x ad w hm 0) (cwV 1 hts gX7_books_X7_holds rfl rfl rfl (by decide +kernel) ⟨Nat.le_of_ble_eq_true rfl, Nat.le_of_ble_eq_true rfl⟩) rfl hl.1 rfl (Nat.le_of_ble_eq_true rfl) dX7_books_29 (Nat.le_of_ble_eq_true rfl) (Nat.le_of_ble_eq_true rfl) (fun r9 M8 H locs hp hw hS hz hk => ?_)
      obtain ⟨hrt10, hmt10, hft10⟩ := hp
      rw [hrt10]
      have frt10 := mFr.tr mFr.rf hft10
      have hxt10 : M8 x = some (.inr (8, [.int (rdH (mH w 0)), .ref (ad 1), .ref (ad 2), .ref (ad 3), .ref (ad 4), .ref (ad 5), .ref (ad 6), .ref (ad 7), .ref (ad 8), .ref (ad 9), .ref (ad 10), .ref (ad 11), .ref (ad 12), .ref (ad 13), .int (nI (rdN (mH w 0))), .ref (ad 15)])) := hmt10.1
      rw [show bI (decide ((0 : Int32) = 0)) = 1 from by decide]
      refine lv_if_ne (tgt := 37) hx hb dX7_books_32 (by decide) (fun _ => ?_) (fun c_32 => absurd c_32 (by decide))
      refine lv_aload_n hx hb dX7_books_37 rfl (lv_at hl 1 rfl) ?_
      refine lv_iload_n hx hb dX7_books_38 rfl (lv_at hl 2 rfl) ?_
      refine lv_iconst (v := 1) hx hb dX7_books_39 (by decide) ?_
      refine lv_iload_n hx hb dX7_books_40 rfl (lv_at hl 3 rfl) ?_
      refine m_callVv X (ci := 8) rfl hxt10 hK hw hZ hS hA (As := [.int si, .int 1, .int au]) (rest := []) (c_loadsK l G dce _ M8 x ad (mH w 0) hmt10 i 1 hi (by decide) au si ei 1 rfl) (cwV 3 hts gX7_books_X7_loads rfl rfl rfl (by decide +kernel) ⟨Nat.le_of_ble_eq_true rfl, Nat.le_of_ble_eq_true rfl⟩) rfl hl.1 rfl (Nat.le_of_ble_eq_true rfl) dX7_books_41 (Nat.le_of_ble_eq_true rfl) (Nat.le_of_ble_eq_true rfl) (fun M11 H locs hp hw hS hz hk => ?_)
      obtain ⟨hmt12, hft12⟩ := hp
      have frt12 := mFr.tr frt10 hft12
      have hxt12 : M11 x = some (.inr (8, [.int (rdH (itm (mLd i 1 au) (rdK w 1) (mH w 0))), .ref (ad 1), .ref (ad 2), .ref (ad 3), .ref (ad 4), .ref (ad 5), .ref (ad 6), .ref (ad 7), .ref (ad 8), .ref (ad 9), .ref (ad 10), .ref (ad 11), .ref (ad 12), .ref (ad 13), .int (nI (rdN (itm (mLd i 1 au) (rdK w 1) (mH w 0)))), .ref (ad 15)])) := hmt12.1
      refine lv_aload_n hx hb dX7_books_44 rfl (lv_at hl 1 rfl) ?_
      refine lv_iload_n hx hb dX7_books_45 rfl (lv_at hl 2 rfl) ?_
      refine lv_iload_n hx hb dX7_books_46 rfl (lv_at hl 3 rfl) ?_
      refine m_callVi X (ci := 8) rfl hxt12 hK hw hZ hS hA (As := [.int si, .int au]) (rest := []) (c_countOfK l G dce _ M11 x ad (itm (mLd i 1 au) (rdK w 1) (mH w 0)) hmt12 i hi au si ei) (cwV 2 hts gX7_books_X7_countOf rfl rfl rfl (by decide +kernel) ⟨Nat.le_of_ble_eq_true rfl, Nat.le_of_ble_eq_true rfl⟩) rfl hl.1 rfl (Nat.le_of_ble_eq_true rfl) dX7_books_47 (Nat.le_of_ble_eq_true rfl) (Nat.le_of_ble_eq_true rfl) (fun r14 M13 H locs hp hw hS hz hk => ?_)
      rw [hp.2] at hw
      rw [hp.1]
      have hC : aBk w si au = 0 := by simp [aBk, (bI_t c_7), (bI_t c_21), si9]
      exact m_iret X hK hw hS ⟨frt12, Or.inl ⟨hC, i, ⟨hi, ei⟩, bI_t c_21, by rw [show rdK (itm (mLd i 1 au) (rdK w 1) (mH w 0)) = rdK w from itm_K (mLd_K i 1 au) _ _], hmt12⟩⟩ (by omega) (by omega) dX7_books_50
  · refine lv_iconst (v := 1) hx hb dX7_books_10 (by decide) ?_
    refine lv_goto (tgt := 29) hx hb dX7_books_11 (by decide) ?_
    refine m_callVi X (ci := 8) rfl hx0 hK hw hZ hS hA (As := [.int 1]) (rest := []) (c_holds l G dce _ M x ad w hm 1) (cwV 1 hts gX7_books_X7_holds rfl rfl rfl (by decide +kernel) ⟨Nat.le_of_ble_eq_true rfl, Nat.le_of_ble_eq_true rfl⟩) rfl hl.1 rfl (Nat.le_of_ble_eq_true rfl) dX7_books_29 (Nat.le_of_ble_eq_true rfl) (Nat.le_of_ble_eq_true rfl) (fun r16 M15 H locs hp hw hS hz hk => ?_)
    obtain ⟨hrt17, hmt17, hft17⟩ := hp
    rw [hrt17]
    have frt17 := mFr.tr mFr.rf hft17
    have hxt17 : M15 x = some (.inr (8, [.int (rdH (mH w 1)), .ref (ad 1), .ref (ad 2), .ref (ad 3), .ref (ad 4), .ref (ad 5), .ref (ad 6), .ref (ad 7), .ref (ad 8), .ref (ad 9), .ref (ad 10), .ref (ad 11), .ref (ad 12), .ref (ad 13), .int (nI (rdN (mH w 1))), .ref (ad 15)])) := hmt17.1
    rw [show bI (decide ((1 : Int32) = 0)) = 0 from by decide]
    refine lv_if_ne (tgt := 37) hx hb dX7_books_32 (by decide) (fun c_32 => absurd (by decide) c_32) (fun _ => ?_)
    refine lv_iconst (v := 0) hx hb dX7_books_35 (by decide) ?_
    have hC : aBk w si au = 1 := by simp [aBk, ((bI_0 _).mp c_7)]
    exact m_iret X hK hw hS ⟨frt17, Or.inr ⟨by rw [hC]; decide, by rw [hC]; exact hmt17⟩⟩ (by omega) (by omega) dX7_books_36
set_option maxHeartbeats 4000000 in
set_option maxRecDepth 100000 in
theorem c_isAsked (l : Launch) (G : gG) (dce sz : Nat) (M : gM) (x : Nat) (ad : Nat → Nat) (w : mW) (hm : MW G M x ad w) (si kd ky : Int32) (b : Bool) : mI l yX7_isAsked wsX7_isAsked ({ frames := 2, cells := 0, slots := 0, locals := 45 }) G dce sz M [.ref x, .int si, .int kd, .int ky, .int (bI b)] (fun r M' => r = bI (decide ((aA w si kd ky b) = 0)) ∧ MW G M' x ad (mH w (aA w si kd ky b)) ∧ mFr x ad M M') (0) (0) := by
  have hx0 : M x = some (.inr (8, [.int (rdH w), .ref (ad 1), .ref (ad 2), .ref (ad 3), .ref (ad 4), .ref (ad 5), .ref (ad 6), .ref (ad 7), .ref (ad 8), .ref (ad 9), .ref (ad 10), .ref (ad 11), .ref (ad 12), .ref (ad 13), .int (nI (rdN w)), .ref (ad 15)])) := hm.1
  refine wMet (Qc := QI G _) (cc := cX7_isAsked) (maxL := 7) (ret := (some .boolean)) (by decide) rfl (Nat.le_of_ble_eq_true rfl) ?_
  intro p e s m below meth c A ls X hnm hw hK hZ hA hS hsz eA hl
  obtain ⟨hx, hb, hr, hts, hown, hlk, hml⟩ := id X
  have hl : lv_has ls 7 [(0, .ref x), (1, .int si), (2, .int kd), (3, .int ky), (4, .int (bI b))] := hl
  refine lv_iload_n hx hb dX7_isAsked_0 rfl (lv_at hl 1 rfl) ?_
  refine m_callSi X hK hw hZ hS hA (As := [.int si]) (rest := []) (c_X7_isSession l G dce _ M si) (va_cwS 1 hts gX7_isAsked_X7_isSession rfl rfl rfl (by decide +kernel) ⟨Nat.le_of_ble_eq_true rfl, Nat.le_of_ble_eq_true rfl⟩) rfl hl.1 rfl (Nat.le_of_ble_eq_true rfl) dX7_isAsked_1 (Nat.le_of_ble_eq_true rfl) (Nat.le_of_ble_eq_true rfl) (fun r2 M1 H locs hp hw hS hz hk => ?_)
  rw [hp.2] at hw
  rw [hp.1]
  refine lv_istore (lv' := [(5, .int (bI (sOK si))), (0, .ref x), (1, .int si), (2, .int kd), (3, .int ky), (4, .int (bI b))]) hx hb dX7_isAsked_4 hl (by decide) rfl (fun ls hl => ?_)
  have jn6_q3 : ∀ (v : Int32) (H : Heap) (locs : List Loc), v = bI (kOK kd && b) → wd G A M H → va_S A s.heap H locs → W p l e ({ frames := 2, cells := 0, slots := 0, locals := 45 }) s m [.ref x, .int si, .int kd, .int ky, .int (bI b)].toArray below meth c H locs (0) (0) (MQ below (QI G (fun r M' => r = bI (decide ((aA w si kd ky b) = 0)) ∧ MW G M' x ad (mH w (aA w si kd ky b)) ∧ mFr x ad M M') A) [.ref x, .int si, .int kd, .int ky, .int (bI b)].toArray s (0) (0) A) (F0 m 23 ls [(.int v)]) := by
    intro v H locs hv9 hw hS
    rw [hv9]
    refine lv_istore (lv' := [(6, .int (bI (kOK kd && b))), (5, .int (bI (sOK si))), (0, .ref x), (1, .int si), (2, .int kd), (3, .int ky), (4, .int (bI b))]) hx hb dX7_isAsked_23 hl (by decide) rfl (fun ls hl => ?_)
    refine lv_aload_n hx hb dX7_isAsked_25 rfl (lv_at hl 2 rfl) ?_
    refine lv_iload hx hb dX7_isAsked_26 (lv_at hl 1 rfl) ?_
    refine lv_if_ne (tgt := 35) hx hb dX7_isAsked_28 (by decide) (fun c_28 => ?_) (fun c_28 => ?_)
    · obtain ⟨i, hi, ei⟩ := sOK_i (bI_t c_28)
      have si9 : si.toNatClampNeg = i := by rw [ei]; exact nI_clamp (by omega)
      refine lv_iload hx hb dX7_isAsked_35 (lv_at hl 0 rfl) ?_
      refine lv_if_ne (tgt := 44) hx hb dX7_isAsked_37 (by decide) (fun c_37 => ?_) (fun c_37 => ?_)
      · obtain ⟨k, hk2, ek⟩ := kOK_k (((Bool.and_eq_true _ _).mp (bI_t c_37)).1)
        have kd9 : kd.toNatClampNeg = k := by rw [ek]; exact nI_clamp (by omega)
        refine lv_aload_n hx hb dX7_isAsked_44 rfl (lv_at hl 2 rfl) ?_
        refine lv_iload_n hx hb dX7_isAsked_45 rfl (lv_at hl 3 rfl) ?_
        refine lv_iload_n hx hb dX7_isAsked_46 rfl (lv_at hl 4 rfl) ?_
        refine lv_iload_n hx hb dX7_isAsked_47 rfl (lv_at hl 5 rfl) ?_
        refine m_callVi X (ci := 8) rfl hx0 hK hw hZ hS hA (As := [.int si, .int kd, .int ky]) (rest := [.ref x]) (c_knowsK l G dce _ M x ad w hm i k hi hk2 ky si ei kd ek) (cwV 3 hts gX7_isAsked_X7_knows rfl rfl rfl (by decide +kernel) ⟨Nat.le_of_ble_eq_true rfl, Nat.le_of_ble_eq_true rfl⟩) rfl hl.1 rfl (Nat.le_of_ble_eq_true rfl) dX7_isAsked_48 (Nat.le_of_ble_eq_true rfl) (Nat.le_of_ble_eq_true rfl) (fun r5 M4 H locs hp hw hS hz hk => ?_)
        rw [hp.2] at hw
        rw [hp.1]
        refine lv_if_eq (tgt := 58) hx hb dX7_isAsked_51 (by decide) (fun c_51 => ?_) (fun c_51 => ?_)
        · refine lv_iconst (v := 3) hx hb dX7_isAsked_58 (by decide) ?_
          refine m_callVi X (ci := 8) rfl hx0 hK hw hZ hS hA (As := [.int 3]) (rest := []) (c_holds l G dce _ M x ad w hm 3) (cwV 1 hts gX7_isAsked_X7_holds rfl rfl rfl (by decide +kernel) ⟨Nat.le_of_ble_eq_true rfl, Nat.le_of_ble_eq_true rfl⟩) rfl hl.1 rfl (Nat.le_of_ble_eq_true rfl) dX7_isAsked_59 (Nat.le_of_ble_eq_true rfl) (Nat.le_of_ble_eq_true rfl) (fun r7 M6 H locs hp hw hS hz hk => ?_)
          obtain ⟨hrt8, hmt8, hft8⟩ := hp
          rw [hrt8]
          have frt8 := mFr.tr mFr.rf hft8
          have hxt8 : M6 x = some (.inr (8, [.int (rdH (mH w 3)), .ref (ad 1), .ref (ad 2), .ref (ad 3), .ref (ad 4), .ref (ad 5), .ref (ad 6), .ref (ad 7), .ref (ad 8), .ref (ad 9), .ref (ad 10), .ref (ad 11), .ref (ad 12), .ref (ad 13), .int (nI (rdN (mH w 3))), .ref (ad 15)])) := hmt8.1
          rw [show bI (decide ((3 : Int32) = 0)) = 0 from by decide]
          have hC : aA w si kd ky b = 3 := by simp [aA, (bI_t c_28), (bI_t c_37), ((bI_0 _).mp c_51), si9, kd9]
          exact m_zret X (by decide) hK hw hS ⟨by rw [hC]; decide, by rw [hC]; exact hmt8, frt8⟩ (by omega) (by omega) dX7_isAsked_62
        · refine lv_iconst (v := 0) hx hb dX7_isAsked_54 (by decide) ?_
          refine lv_goto (tgt := 59) hx hb dX7_isAsked_55 (by decide) ?_
          refine m_callVi X (ci := 8) rfl hx0 hK hw hZ hS hA (As := [.int 0]) (rest := []) (c_holds l G dce _ M x ad w hm 0) (cwV 1 hts gX7_isAsked_X7_holds rfl rfl rfl (by decide +kernel) ⟨Nat.le_of_ble_eq_true rfl, Nat.le_of_ble_eq_true rfl⟩) rfl hl.1 rfl (Nat.le_of_ble_eq_true rfl) dX7_isAsked_59 (Nat.le_of_ble_eq_true rfl) (Nat.le_of_ble_eq_true rfl) (fun r10 M9 H locs hp hw hS hz hk => ?_)
          obtain ⟨hrt11, hmt11, hft11⟩ := hp
          rw [hrt11]
          have frt11 := mFr.tr mFr.rf hft11
          have hxt11 : M9 x = some (.inr (8, [.int (rdH (mH w 0)), .ref (ad 1), .ref (ad 2), .ref (ad 3), .ref (ad 4), .ref (ad 5), .ref (ad 6), .ref (ad 7), .ref (ad 8), .ref (ad 9), .ref (ad 10), .ref (ad 11), .ref (ad 12), .ref (ad 13), .int (nI (rdN (mH w 0))), .ref (ad 15)])) := hmt11.1
          rw [show bI (decide ((0 : Int32) = 0)) = 1 from by decide]
          have hC : aA w si kd ky b = 0 := by simp [aA, (bI_t c_28), (bI_t c_37), (bI_t c_51), si9, kd9]
          exact m_zret X (by decide) hK hw hS ⟨by rw [hC]; decide, by rw [hC]; exact hmt11, frt11⟩ (by omega) (by omega) dX7_isAsked_62
      · refine lv_iconst (v := 2) hx hb dX7_isAsked_40 (by decide) ?_
        refine lv_goto (tgt := 59) hx hb dX7_isAsked_41 (by decide) ?_
        refine m_callVi X (ci := 8) rfl hx0 hK hw hZ hS hA (As := [.int 2]) (rest := []) (c_holds l G dce _ M x ad w hm 2) (cwV 1 hts gX7_isAsked_X7_holds rfl rfl rfl (by decide +kernel) ⟨Nat.le_of_ble_eq_true rfl, Nat.le_of_ble_eq_true rfl⟩) rfl hl.1 rfl (Nat.le_of_ble_eq_true rfl) dX7_isAsked_59 (Nat.le_of_ble_eq_true rfl) (Nat.le_of_ble_eq_true rfl) (fun r13 M12 H locs hp hw hS hz hk => ?_)
        obtain ⟨hrt14, hmt14, hft14⟩ := hp
        rw [hrt14]
        have frt14 := mFr.tr mFr.rf hft14
        have hxt14 : M12 x = some (.inr (8, [.int (rdH (mH w 2)), .ref (ad 1), .ref (ad 2), .ref (ad 3), .ref (ad 4), .ref (ad 5), .ref (ad 6), .ref (ad 7), .ref (ad 8), .ref (ad 9), .ref (ad 10), .ref (ad 11), .ref (ad 12), .ref (ad 13), .int (nI (rdN (mH w 2))), .ref (ad 15)])) := hmt14.1
        rw [show bI (decide ((2 : Int32) = 0)) = 0 from by decide]
        have hC : aA w si kd ky b = 2 := by simp [aA, (bI_t c_28), ((bI_0 _).mp c_37), si9]
        exact m_zret X (by decide) hK hw hS ⟨by rw [hC]; decide, by rw [hC]; exact hmt14, frt14⟩ (by omega) (by omega) dX7_isAsked_62
    · refine lv_iconst (v := 1) hx hb dX7_isAsked_31 (by decide) ?_
      refine lv_goto (tgt := 59) hx hb dX7_isAsked_32 (by decide) ?_
      refine m_callVi X (ci := 8) rfl hx0 hK hw hZ hS hA (As := [.int 1]) (rest := []) (c_holds l G dce _ M x ad w hm 1) (cwV 1 hts gX7_isAsked_X7_holds rfl rfl rfl (by decide +kernel) ⟨Nat.le_of_ble_eq_true rfl, Nat.le_of_ble_eq_true rfl⟩) rfl hl.1 rfl (Nat.le_of_ble_eq_true rfl) dX7_isAsked_59 (Nat.le_of_ble_eq_true rfl) (Nat.le_of_ble_eq_true rfl) (fun r16 M15 H locs hp hw hS hz hk => ?_)
      obtain ⟨hrt17, hmt17, hft17⟩ := hp
      rw [hrt17]
      have frt17 := mFr.tr mFr.rf hft17
      have hxt17 : M15 x = some (.inr (8, [.int (rdH (mH w 1)), .ref (ad 1), .ref (ad 2), .ref (ad 3), .ref (ad 4), .ref (ad 5), .ref (ad 6), .ref (ad 7), .ref (ad 8), .ref (ad 9), .ref (ad 10), .ref (ad 11), .ref (ad 12), .ref (ad 13), .int (nI (rdN (mH w 1))), .ref (ad 15)])) := hmt17.1
      rw [show bI (decide ((1 : Int32) = 0)) = 0 from by decide]
      have hC : aA w si kd ky b = 1 := by simp [aA, ((bI_0 _).mp c_28)]
      exact m_zret X (by decide) hK hw hS ⟨by rw [hC]; decide, by rw [hC]; exact hmt17, frt17⟩ (by omega) (by omega) dX7_isAsked_62
  refine lv_iload_n hx hb dX7_isAsked_6 rfl (lv_at hl 3 rfl) ?_
  refine m_callSi X hK hw hZ hS hA (As := [.int kd]) (rest := []) (c_X7_isKind l G dce _ M kd) (va_cwS 1 hts gX7_isAsked_X7_isKind rfl rfl rfl (by decide +kernel) ⟨Nat.le_of_ble_eq_true rfl, Nat.le_of_ble_eq_true rfl⟩) rfl hl.1 rfl (Nat.le_of_ble_eq_true rfl) dX7_isAsked_7 (Nat.le_of_ble_eq_true rfl) (Nat.le_of_ble_eq_true rfl) (fun r19 M18 H locs hp hw hS hz hk => ?_)
  rw [hp.2] at hw
  rw [hp.1]
  refine lv_if_eq (tgt := 22) hx hb dX7_isAsked_10 (by decide) (fun c_10 => ?_) (fun c_10 => ?_)
  · refine lv_iconst (v := 0) hx hb dX7_isAsked_22 (by decide) ?_
    exact jn6_q3 _ _ _ (by simp [bI, ((bI_0 _).mp c_10)]) hw hS
  · refine lv_iload hx hb dX7_isAsked_13 (lv_at hl 5 rfl) ?_
    refine lv_if_eq (tgt := 22) hx hb dX7_isAsked_15 (by decide) (fun c_15 => ?_) (fun c_15 => ?_)
    · refine lv_iconst (v := 0) hx hb dX7_isAsked_22 (by decide) ?_
      exact jn6_q3 _ _ _ (by simp [bI, (bI_t c_10), ((bI_0 _).mp c_15)]) hw hS
    · refine lv_iconst (v := 1) hx hb dX7_isAsked_18 (by decide) ?_
      refine lv_goto (tgt := 23) hx hb dX7_isAsked_19 (by decide) ?_
      exact jn6_q3 _ _ _ (by simp [bI, (bI_t c_10), (bI_t c_15)]) hw hS
set_option maxHeartbeats 4000000 in
set_option maxRecDepth 100000 in
theorem c_mName (l : Launch) (G : gG) (dce sz : Nat) (M : gM) (x : Nat) (ad : Nat → Nat) (w : mW) (hm : MW G M x ad w) (si kd ky : Int32) : mI l yX7_name wsX7_name ({ frames := 3, cells := 0, slots := 0, locals := 71 }) G dce sz M [.ref x, .int si, .int kd, .int ky] (fun r M' => mFr x ad M M' ∧ (((aA w si kd ky true) = 0 ∧ ∃ i k j, aS si i ∧ aK kd k ∧ (j < rdK w k ∧ ky = nI j) ∧ mKn w i k (nI j) = true ∧ r = rdT w 9 (aP i k j) ∧ MW G M' x ad (mH w 0)) ∨ ((aA w si kd ky true) ≠ 0 ∧ MW G M' x ad (mH w (aA w si kd ky true))))) (0) (0) := by
  have hx0 : M x = some (.inr (8, [.int (rdH w), .ref (ad 1), .ref (ad 2), .ref (ad 3), .ref (ad 4), .ref (ad 5), .ref (ad 6), .ref (ad 7), .ref (ad 8), .ref (ad 9), .ref (ad 10), .ref (ad 11), .ref (ad 12), .ref (ad 13), .int (nI (rdN w)), .ref (ad 15)])) := hm.1
  refine wMet (Qc := QI G _) (cc := cX7_name) (maxL := 4) (ret := (some .int)) (by decide) rfl (Nat.le_of_ble_eq_true rfl) ?_
  intro p e s m below meth c A ls X hnm hw hK hZ hA hS hsz eA hl
  obtain ⟨hx, hb, hr, hts, hown, hlk, hml⟩ := id X
  have hl : lv_has ls 4 [(0, .ref x), (1, .int si), (2, .int kd), (3, .int ky)] := hl
  have iX7 : ∀ w ∈ wsX70, w ∈ wsX7_name := by decide +kernel
  refine lv_aload_n hx hb dX7_name_0 rfl (lv_at hl 0 rfl) ?_
  refine lv_iload_n hx hb dX7_name_1 rfl (lv_at hl 1 rfl) ?_
  refine lv_iload_n hx hb dX7_name_2 rfl (lv_at hl 2 rfl) ?_
  refine lv_iload_n hx hb dX7_name_3 rfl (lv_at hl 3 rfl) ?_
  refine lv_iconst (v := 1) hx hb dX7_name_4 (by decide) ?_
  refine m_callVi X (ci := 8) rfl hx0 hK hw hZ hS hA (As := [.int si, .int kd, .int ky, .int 1]) (rest := []) (c_isAsked l G dce _ M x ad w hm si kd ky true) (cwV 4 hts gX7_name_X7_isAsked rfl rfl rfl (by decide +kernel) ⟨Nat.le_of_ble_eq_true rfl, Nat.le_of_ble_eq_true rfl⟩) rfl hl.1 rfl (Nat.le_of_ble_eq_true rfl) dX7_name_5 (Nat.le_of_ble_eq_true rfl) (Nat.le_of_ble_eq_true rfl) (fun r2 M1 H locs hp hw hS hz hk => ?_)
  obtain ⟨hrt3, hmt3, hft3⟩ := hp
  rw [hrt3]
  have frt3 := mFr.tr mFr.rf hft3
  have hxt3 : M1 x = some (.inr (8, [.int (rdH (mH w (aA w si kd ky true))), .ref (ad 1), .ref (ad 2), .ref (ad 3), .ref (ad 4), .ref (ad 5), .ref (ad 6), .ref (ad 7), .ref (ad 8), .ref (ad 9), .ref (ad 10), .ref (ad 11), .ref (ad 12), .ref (ad 13), .int (nI (rdN (mH w (aA w si kd ky true)))), .ref (ad 15)])) := hmt3.1
  refine lv_if_eq (tgt := 25) hx hb dX7_name_8 (by decide) (fun c_8 => ?_) (fun c_8 => ?_)
  · refine lv_iconst (v := 0) hx hb dX7_name_25 (by decide) ?_
    exact m_iret X hK hw hS ⟨frt3, Or.inr ⟨of_decide_eq_false (((bI_0 _).mp c_8)), hmt3⟩⟩ (by omega) (by omega) dX7_name_26
  · have h0 : aA w si kd ky true = 0 := of_decide_eq_true (bI_t c_8)
    obtain ⟨i, k, j, ⟨hi, ei⟩, ⟨hk2, ek⟩, hb9, ⟨hjk, ej⟩, hkn⟩ := aA_0 (fun k hk => hm.kb hk) h0
    have hjb := hm.kb hk2
    have hj2 : j < 1024 := by omega
    have hm0 : MW G M1 x ad (mH w 0) := by have h9 := hmt3; rw [h0] at h9; exact h9
    have hxo0 : M1 x = some (.inr (8, [.int (rdH (mH w 0)), .ref (ad 1), .ref (ad 2), .ref (ad 3), .ref (ad 4), .ref (ad 5), .ref (ad 6), .ref (ad 7), .ref (ad 8), .ref (ad 9), .ref (ad 10), .ref (ad 11), .ref (ad 12), .ref (ad 13), .int (nI (rdN (mH w 0))), .ref (ad 15)])) := hm0.1
    refine lv_aload_n hx hb dX7_name_11 rfl (lv_at hl 0 rfl) ?_
    refine m_get X iX7 hK hw hxo0 rfl 9 (by decide) (ref := "ObjectMapperModel") (by decide +kernel) (Or.inl rfl) rfl dX7_name_12 ?_
    refine lv_iload_n hx hb dX7_name_15 rfl (lv_at hl 1 rfl) ?_
    refine lv_iload_n hx hb dX7_name_16 rfl (lv_at hl 2 rfl) ?_
    refine lv_iload_n hx hb dX7_name_17 rfl (lv_at hl 3 rfl) ?_
    refine m_callSi X hK hw hZ hS hA (As := [.int si, .int kd, .int ky]) (rest := [.ref (ad 9)]) (c_atK l G dce _ M1 i k j si ei kd ek ky ej) (va_cwS 3 hts gX7_name_X7_at rfl rfl rfl (by decide +kernel) ⟨Nat.le_of_ble_eq_true rfl, Nat.le_of_ble_eq_true rfl⟩) rfl hl.1 rfl (Nat.le_of_ble_eq_true rfl) dX7_name_18 (Nat.le_of_ble_eq_true rfl) (Nat.le_of_ble_eq_true rfl) (fun r5 M4 H locs hp hw hS hz hk => ?_)
    rw [hp.2] at hw
    rw [hp.1]
    have ix6 : ((nI (aP i k j)) : Int32) = nI (aP i k j) := rfl
    have ix6b : (aP i k j) < 6144 := (aP_lt hi hk2 hj2)
    refine m_iald X hK hw (hm0.a9) (i := (nI (aP i k j))) (by rw [ix6]; exact vp_in_nI ix6b (by decide)) dX7_name_21 ?_
    rw [show ((nI (aP i k j)) : Int32).toNatClampNeg = (aP i k j) from by rw [ix6]; exact nI_clamp (by omega)]
    refine lv_goto (tgt := 26) hx hb dX7_name_22 (by decide) ?_
    exact m_iret X hK hw hS ⟨frt3, Or.inl ⟨h0, i, k, j, ⟨hi, ei⟩, ⟨hk2, ek⟩, ⟨hjk, ej⟩, hkn, rfl, hm0⟩⟩ (by omega) (by omega) dX7_name_26
set_option maxHeartbeats 4000000 in
set_option maxRecDepth 100000 in
theorem c_mReference (l : Launch) (G : gG) (dce sz : Nat) (M : gM) (x : Nat) (ad : Nat → Nat) (w : mW) (hm : MW G M x ad w) (si kd ky : Int32) : mI l yX7_reference wsX7_reference ({ frames := 3, cells := 0, slots := 0, locals := 71 }) G dce sz M [.ref x, .int si, .int kd, .int ky] (fun r M' => mFr x ad M M' ∧ (((aA w si kd ky true) = 0 ∧ ∃ i k j, aS si i ∧ aK kd k ∧ (j < rdK w k ∧ ky = nI j) ∧ mKn w i k (nI j) = true ∧ r = rdT w 10 (aP i k j) ∧ MW G M' x ad (mH w 0)) ∨ ((aA w si kd ky true) ≠ 0 ∧ MW G M' x ad (mH w (aA w si kd ky true))))) (0) (0) := by
  have hx0 : M x = some (.inr (8, [.int (rdH w), .ref (ad 1), .ref (ad 2), .ref (ad 3), .ref (ad 4), .ref (ad 5), .ref (ad 6), .ref (ad 7), .ref (ad 8), .ref (ad 9), .ref (ad 10), .ref (ad 11), .ref (ad 12), .ref (ad 13), .int (nI (rdN w)), .ref (ad 15)])) := hm.1
  refine wMet (Qc := QI G _) (cc := cX7_reference) (maxL := 4) (ret := (some .int)) (by decide) rfl (Nat.le_of_ble_eq_true rfl) ?_
  intro p e s m below meth c A ls X hnm hw hK hZ hA hS hsz eA hl
  obtain ⟨hx, hb, hr, hts, hown, hlk, hml⟩ := id X
  have hl : lv_has ls 4 [(0, .ref x), (1, .int si), (2, .int kd), (3, .int ky)] := hl
  have iX7 : ∀ w ∈ wsX70, w ∈ wsX7_reference := by decide +kernel
  refine lv_aload_n hx hb dX7_reference_0 rfl (lv_at hl 0 rfl) ?_
  refine lv_iload_n hx hb dX7_reference_1 rfl (lv_at hl 1 rfl) ?_
  refine lv_iload_n hx hb dX7_reference_2 rfl (lv_at hl 2 rfl) ?_
  refine lv_iload_n hx hb dX7_reference_3 rfl (lv_at hl 3 rfl) ?_
  refine lv_iconst (v := 1) hx hb dX7_reference_4 (by decide) ?_
  refine m_callVi X (ci := 8) rfl hx0 hK hw hZ hS hA (As := [.int si, .int kd, .int ky, .int 1]) (rest := []) (c_isAsked l G dce _ M x ad w hm si kd ky true) (cwV 4 hts gX7_reference_X7_isAsked rfl rfl rfl (by decide +kernel) ⟨Nat.le_of_ble_eq_true rfl, Nat.le_of_ble_eq_true rfl⟩) rfl hl.1 rfl (Nat.le_of_ble_eq_true rfl) dX7_reference_5 (Nat.le_of_ble_eq_true rfl) (Nat.le_of_ble_eq_true rfl) (fun r2 M1 H locs hp hw hS hz hk => ?_)
  obtain ⟨hrt3, hmt3, hft3⟩ := hp
  rw [hrt3]
  have frt3 := mFr.tr mFr.rf hft3
  have hxt3 : M1 x = some (.inr (8, [.int (rdH (mH w (aA w si kd ky true))), .ref (ad 1), .ref (ad 2), .ref (ad 3), .ref (ad 4), .ref (ad 5), .ref (ad 6), .ref (ad 7), .ref (ad 8), .ref (ad 9), .ref (ad 10), .ref (ad 11), .ref (ad 12), .ref (ad 13), .int (nI (rdN (mH w (aA w si kd ky true)))), .ref (ad 15)])) := hmt3.1
  refine lv_if_eq (tgt := 25) hx hb dX7_reference_8 (by decide) (fun c_8 => ?_) (fun c_8 => ?_)
  · refine lv_iconst (v := 0) hx hb dX7_reference_25 (by decide) ?_
    exact m_iret X hK hw hS ⟨frt3, Or.inr ⟨of_decide_eq_false (((bI_0 _).mp c_8)), hmt3⟩⟩ (by omega) (by omega) dX7_reference_26
  · have h0 : aA w si kd ky true = 0 := of_decide_eq_true (bI_t c_8)
    obtain ⟨i, k, j, ⟨hi, ei⟩, ⟨hk2, ek⟩, hb9, ⟨hjk, ej⟩, hkn⟩ := aA_0 (fun k hk => hm.kb hk) h0
    have hjb := hm.kb hk2
    have hj2 : j < 1024 := by omega
    have hm0 : MW G M1 x ad (mH w 0) := by have h9 := hmt3; rw [h0] at h9; exact h9
    have hxo0 : M1 x = some (.inr (8, [.int (rdH (mH w 0)), .ref (ad 1), .ref (ad 2), .ref (ad 3), .ref (ad 4), .ref (ad 5), .ref (ad 6), .ref (ad 7), .ref (ad 8), .ref (ad 9), .ref (ad 10), .ref (ad 11), .ref (ad 12), .ref (ad 13), .int (nI (rdN (mH w 0))), .ref (ad 15)])) := hm0.1
    refine lv_aload_n hx hb dX7_reference_11 rfl (lv_at hl 0 rfl) ?_
    refine m_get X iX7 hK hw hxo0 rfl 10 (by decide) (ref := "ObjectMapperModel") (by decide +kernel) (Or.inl rfl) rfl dX7_reference_12 ?_
    refine lv_iload_n hx hb dX7_reference_15 rfl (lv_at hl 1 rfl) ?_
    refine lv_iload_n hx hb dX7_reference_16 rfl (lv_at hl 2 rfl) ?_
    refine lv_iload_n hx hb dX7_reference_17 rfl (lv_at hl 3 rfl) ?_
    refine m_callSi X hK hw hZ hS hA (As := [.int si, .int kd, .int ky]) (rest := [.ref (ad 10)]) (c_atK l G dce _ M1 i k j si ei kd ek ky ej) (va_cwS 3 hts gX7_reference_X7_at rfl rfl rfl (by decide +kernel) ⟨Nat.le_of_ble_eq_true rfl, Nat.le_of_ble_eq_true rfl⟩) rfl hl.1 rfl (Nat.le_of_ble_eq_true rfl) dX7_reference_18 (Nat.le_of_ble_eq_true rfl) (Nat.le_of_ble_eq_true rfl) (fun r5 M4 H locs hp hw hS hz hk => ?_)
    rw [hp.2] at hw
    rw [hp.1]
    have ix6 : ((nI (aP i k j)) : Int32) = nI (aP i k j) := rfl
    have ix6b : (aP i k j) < 6144 := (aP_lt hi hk2 hj2)
    refine m_iald X hK hw (hm0.a10) (i := (nI (aP i k j))) (by rw [ix6]; exact vp_in_nI ix6b (by decide)) dX7_reference_21 ?_
    rw [show ((nI (aP i k j)) : Int32).toNatClampNeg = (aP i k j) from by rw [ix6]; exact nI_clamp (by omega)]
    refine lv_goto (tgt := 26) hx hb dX7_reference_22 (by decide) ?_
    exact m_iret X hK hw hS ⟨frt3, Or.inl ⟨h0, i, k, j, ⟨hi, ei⟩, ⟨hk2, ek⟩, ⟨hjk, ej⟩, hkn, rfl, hm0⟩⟩ (by omega) (by omega) dX7_reference_26
set_option maxHeartbeats 4000000 in
set_option maxRecDepth 100000 in
theorem c_mSetName (l : Launch) (G : gG) (dce sz : Nat) (M : gM) (x : Nat) (ad : Nat → Nat) (w : mW) (hm : MW G M x ad w) (si kd ky nm : Int32) : mV l yX7_setName wsX7_setName ({ frames := 3, cells := 0, slots := 0, locals := 71 }) G dce sz M [.ref x, .int si, .int kd, .int ky, .int nm] (fun M' => mFr x ad M M' ∧ (((aA w si kd ky (nOK nm)) = 0 ∧ ∃ i k j, aS si i ∧ aK kd k ∧ (j < rdK w k ∧ ky = nI j) ∧ mKn w i k (nI j) = true ∧ MW G M' x ad (mS (mH w 0) 9 (aP i k j) nm)) ∨ ((aA w si kd ky (nOK nm)) ≠ 0 ∧ MW G M' x ad (mH w (aA w si kd ky (nOK nm)))))) (0) (0) := by
  have hx0 : M x = some (.inr (8, [.int (rdH w), .ref (ad 1), .ref (ad 2), .ref (ad 3), .ref (ad 4), .ref (ad 5), .ref (ad 6), .ref (ad 7), .ref (ad 8), .ref (ad 9), .ref (ad 10), .ref (ad 11), .ref (ad 12), .ref (ad 13), .int (nI (rdN w)), .ref (ad 15)])) := hm.1
  refine wMet (Qc := QV G _) (cc := cX7_setName) (maxL := 5) (ret := none) (by decide) rfl (Nat.le_of_ble_eq_true rfl) ?_
  intro p e s m below meth c A ls X hnm hw hK hZ hA hS hsz eA hl
  obtain ⟨hx, hb, hr, hts, hown, hlk, hml⟩ := id X
  have hl : lv_has ls 5 [(0, .ref x), (1, .int si), (2, .int kd), (3, .int ky), (4, .int nm)] := hl
  have iX7 : ∀ w ∈ wsX70, w ∈ wsX7_setName := by decide +kernel
  refine lv_aload_n hx hb dX7_setName_0 rfl (lv_at hl 0 rfl) ?_
  refine lv_iload_n hx hb dX7_setName_1 rfl (lv_at hl 1 rfl) ?_
  refine lv_iload_n hx hb dX7_setName_2 rfl (lv_at hl 2 rfl) ?_
  refine lv_iload_n hx hb dX7_setName_3 rfl (lv_at hl 3 rfl) ?_
  refine lv_iload hx hb dX7_setName_4 (lv_at hl 4 rfl) ?_
  refine m_callSi X hK hw hZ hS hA (As := [.int nm]) (rest := [.int ky, .int kd, .int si, .ref x]) (c_X7_isName l G dce _ M nm) (va_cwS 1 hts gX7_setName_X7_isName rfl rfl rfl (by decide +kernel) ⟨Nat.le_of_ble_eq_true rfl, Nat.le_of_ble_eq_true rfl⟩) rfl hl.1 rfl (Nat.le_of_ble_eq_true rfl) dX7_setName_6 (Nat.le_of_ble_eq_true rfl) (Nat.le_of_ble_eq_true rfl) (fun r2 M1 H locs hp hw hS hz hk => ?_)
  rw [hp.2] at hw
  rw [hp.1]
  refine m_callVi X (ci := 8) rfl hx0 hK hw hZ hS hA (As := [.int si, .int kd, .int ky, .int (bI (nOK nm))]) (rest := []) (c_isAsked l G dce _ M x ad w hm si kd ky (nOK nm)) (cwV 4 hts gX7_setName_X7_isAsked rfl rfl rfl (by decide +kernel) ⟨Nat.le_of_ble_eq_true rfl, Nat.le_of_ble_eq_true rfl⟩) rfl hl.1 rfl (Nat.le_of_ble_eq_true rfl) dX7_setName_9 (Nat.le_of_ble_eq_true rfl) (Nat.le_of_ble_eq_true rfl) (fun r4 M3 H locs hp hw hS hz hk => ?_)
  obtain ⟨hrt5, hmt5, hft5⟩ := hp
  rw [hrt5]
  have frt5 := mFr.tr mFr.rf hft5
  have hxt5 : M3 x = some (.inr (8, [.int (rdH (mH w (aA w si kd ky (nOK nm)))), .ref (ad 1), .ref (ad 2), .ref (ad 3), .ref (ad 4), .ref (ad 5), .ref (ad 6), .ref (ad 7), .ref (ad 8), .ref (ad 9), .ref (ad 10), .ref (ad 11), .ref (ad 12), .ref (ad 13), .int (nI (rdN (mH w (aA w si kd ky (nOK nm))))), .ref (ad 15)])) := hmt5.1
  refine lv_if_eq (tgt := 28) hx hb dX7_setName_12 (by decide) (fun c_12 => ?_) (fun c_12 => ?_)
  · exact m_vret X hK hw hS ⟨frt5, Or.inr ⟨of_decide_eq_false (((bI_0 _).mp c_12)), hmt5⟩⟩ (by omega) (by omega) dX7_setName_28
  · have h0 : aA w si kd ky (nOK nm) = 0 := of_decide_eq_true (bI_t c_12)
    obtain ⟨i, k, j, ⟨hi, ei⟩, ⟨hk2, ek⟩, hb9, ⟨hjk, ej⟩, hkn⟩ := aA_0 (fun k hk => hm.kb hk) h0
    have hjb := hm.kb hk2
    have hj2 : j < 1024 := by omega
    have hm0 : MW G M3 x ad (mH w 0) := by have h9 := hmt5; rw [h0] at h9; exact h9
    have hxo0 : M3 x = some (.inr (8, [.int (rdH (mH w 0)), .ref (ad 1), .ref (ad 2), .ref (ad 3), .ref (ad 4), .ref (ad 5), .ref (ad 6), .ref (ad 7), .ref (ad 8), .ref (ad 9), .ref (ad 10), .ref (ad 11), .ref (ad 12), .ref (ad 13), .int (nI (rdN (mH w 0))), .ref (ad 15)])) := hm0.1
    refine lv_aload_n hx hb dX7_setName_15 rfl (lv_at hl 0 rfl) ?_
    refine m_get X iX7 hK hw hxo0 rfl 9 (by decide) (ref := "ObjectMapperModel") (by decide +kernel) (Or.inl rfl) rfl dX7_setName_16 ?_
    refine lv_iload_n hx hb dX7_setName_19 rfl (lv_at hl 1 rfl) ?_
    refine lv_iload_n hx hb dX7_setName_20 rfl (lv_at hl 2 rfl) ?_
    refine lv_iload_n hx hb dX7_setName_21 rfl (lv_at hl 3 rfl) ?_
    refine m_callSi X hK hw hZ hS hA (As := [.int si, .int kd, .int ky]) (rest := [.ref (ad 9)]) (c_atK l G dce _ M3 i k j si ei kd ek ky ej) (va_cwS 3 hts gX7_setName_X7_at rfl rfl rfl (by decide +kernel) ⟨Nat.le_of_ble_eq_true rfl, Nat.le_of_ble_eq_true rfl⟩) rfl hl.1 rfl (Nat.le_of_ble_eq_true rfl) dX7_setName_22 (Nat.le_of_ble_eq_true rfl) (Nat.le_of_ble_eq_true rfl) (fun r7 M6 H locs hp hw hS hz hk => ?_)
    rw [hp.2] at hw
    rw [hp.1]
    refine lv_iload hx hb dX7_setName_25 (lv_at hl 4 rfl) ?_
    have ix9 : ((nI (aP i k j)) : Int32) = nI (aP i k j) := rfl
    have ix9b : (aP i k j) < 6144 := (aP_lt hi hk2 hj2)
    refine m_iast X hK hw hS (hm0.a9) (i := (nI (aP i k j))) (x := nm) (by rw [ix9]; exact vp_in_nI ix9b (by decide)) dX7_setName_27 (fun M8 H locs eM8 hw hS => ?_)
    rw [show ((nI (aP i k j)) : Int32).toNatClampNeg = (aP i k j) from by rw [ix9]; exact nI_clamp (by omega)] at eM8
    obtain ⟨wt10, ewt10⟩ : ∃ w9, w9 = mS (mH w 0) 9 (aP i k j) nm := ⟨_, rfl⟩
    have hmt10 : MW G M8 x ad wt10 := by rw [ewt10]; exact hm0.set9 eM8
    have frt10 := mFr.tr frt5 (mFr.wr (x := x) (ad := ad) (a := 9) (by decide) eM8)
    have hxt10 : M8 x = some (.inr (8, [.int (rdH wt10), .ref (ad 1), .ref (ad 2), .ref (ad 3), .ref (ad 4), .ref (ad 5), .ref (ad 6), .ref (ad 7), .ref (ad 8), .ref (ad 9), .ref (ad 10), .ref (ad 11), .ref (ad 12), .ref (ad 13), .int (nI (rdN wt10)), .ref (ad 15)])) := hmt10.1
    exact m_vret X hK hw hS ⟨frt10, Or.inl ⟨h0, i, k, j, ⟨hi, ei⟩, ⟨hk2, ek⟩, ⟨hjk, ej⟩, hkn, by rw [← ewt10]; exact hmt10⟩⟩ (by omega) (by omega) dX7_setName_28
set_option maxHeartbeats 4000000 in
set_option maxRecDepth 100000 in
theorem c_mSetReference (l : Launch) (G : gG) (dce sz : Nat) (M : gM) (x : Nat) (ad : Nat → Nat) (w : mW) (hm : MW G M x ad w) (si kd ky rf : Int32) : mV l yX7_setReference wsX7_setReference ({ frames := 3, cells := 0, slots := 0, locals := 71 }) G dce sz M [.ref x, .int si, .int kd, .int ky, .int rf] (fun M' => mFr x ad M M' ∧ (((aSR w si kd ky rf) = 0 ∧ ∃ i k j, aS si i ∧ aK kd k ∧ (j < rdK w k ∧ ky = nI j) ∧ mKn w i k (nI j) = true ∧ (decide (rf = -1) || mKn w i (1 - k) rf) = true ∧ MW G M' x ad (mS (mH (mH w 0) 0) 10 (aP i k j) rf)) ∨ ((aSR w si kd ky rf) ≠ 0 ∧ MW G M' x ad (mH w (aSR w si kd ky rf))))) (0) (0) := by
  have hx0 : M x = some (.inr (8, [.int (rdH w), .ref (ad 1), .ref (ad 2), .ref (ad 3), .ref (ad 4), .ref (ad 5), .ref (ad 6), .ref (ad 7), .ref (ad 8), .ref (ad 9), .ref (ad 10), .ref (ad 11), .ref (ad 12), .ref (ad 13), .int (nI (rdN w)), .ref (ad 15)])) := hm.1
  refine wMet (Qc := QV G _) (cc := cX7_setReference) (maxL := 7) (ret := none) (by decide) rfl (Nat.le_of_ble_eq_true rfl) ?_
  intro p e s m below meth c A ls X hnm hw hK hZ hA hS hsz eA hl
  obtain ⟨hx, hb, hr, hts, hown, hlk, hml⟩ := id X
  have hl : lv_has ls 7 [(0, .ref x), (1, .int si), (2, .int kd), (3, .int ky), (4, .int rf)] := hl
  have iX7 : ∀ w ∈ wsX70, w ∈ wsX7_setReference := by decide +kernel
  have jn0_q1 : ∀ (v : Int32) (H : Heap) (locs : List Loc), v = bI (decide (rf = -1)) → wd G A M H → va_S A s.heap H locs → W p l e ({ frames := 3, cells := 0, slots := 0, locals := 71 }) s m [.ref x, .int si, .int kd, .int ky, .int rf].toArray below meth c H locs (0) (0) (MQ below (QV G (fun M' => mFr x ad M M' ∧ (((aSR w si kd ky rf) = 0 ∧ ∃ i k j, aS si i ∧ aK kd k ∧ (j < rdK w k ∧ ky = nI j) ∧ mKn w i k (nI j) = true ∧ (decide (rf = -1) || mKn w i (1 - k) rf) = true ∧ MW G M' x ad (mS (mH (mH w 0) 0) 10 (aP i k j) rf)) ∨ ((aSR w si kd ky rf) ≠ 0 ∧ MW G M' x ad (mH w (aSR w si kd ky rf))))) A) [.ref x, .int si, .int kd, .int ky, .int rf].toArray s (0) (0) A) (F0 m 11 ls [(.int v)]) := by
    intro v H locs hv9 hw hS
    rw [hv9]
    refine lv_istore (lv' := [(5, .int (bI (decide (rf = -1)))), (0, .ref x), (1, .int si), (2, .int kd), (3, .int ky), (4, .int rf)]) hx hb dX7_setReference_11 hl (by decide) rfl (fun ls hl => ?_)
    refine lv_aload_n hx hb dX7_setReference_13 rfl (lv_at hl 1 rfl) ?_
    refine lv_iload_n hx hb dX7_setReference_14 rfl (lv_at hl 2 rfl) ?_
    refine lv_iload_n hx hb dX7_setReference_15 rfl (lv_at hl 3 rfl) ?_
    refine lv_iload_n hx hb dX7_setReference_16 rfl (lv_at hl 4 rfl) ?_
    have jn17_q2 : ∀ (v : Int32) (H : Heap) (locs : List Loc), v = bI (!decide (rf = -1) || decide (kd = 0)) → wd G A M H → va_S A s.heap H locs → W p l e ({ frames := 3, cells := 0, slots := 0, locals := 71 }) s m [.ref x, .int si, .int kd, .int ky, .int rf].toArray below meth c H locs (0) (0) (MQ below (QV G (fun M' => mFr x ad M M' ∧ (((aSR w si kd ky rf) = 0 ∧ ∃ i k j, aS si i ∧ aK kd k ∧ (j < rdK w k ∧ ky = nI j) ∧ mKn w i k (nI j) = true ∧ (decide (rf = -1) || mKn w i (1 - k) rf) = true ∧ MW G M' x ad (mS (mH (mH w 0) 0) 10 (aP i k j) rf)) ∨ ((aSR w si kd ky rf) ≠ 0 ∧ MW G M' x ad (mH w (aSR w si kd ky rf))))) A) [.ref x, .int si, .int kd, .int ky, .int rf].toArray s (0) (0) A) (F0 m 31 ls [(.int v), .int ky, .int kd, .int si, .ref x]) := by
      intro v H locs hv9 hw hS
      rw [hv9]
      refine m_callVi X (ci := 8) rfl hx0 hK hw hZ hS hA (As := [.int si, .int kd, .int ky, .int (bI (!decide (rf = -1) || decide (kd = 0)))]) (rest := []) (c_isAsked l G dce _ M x ad w hm si kd ky (!decide (rf = -1) || decide (kd = 0))) (cwV 4 hts gX7_setReference_X7_isAsked rfl rfl rfl (by decide +kernel) ⟨Nat.le_of_ble_eq_true rfl, Nat.le_of_ble_eq_true rfl⟩) rfl hl.1 rfl (Nat.le_of_ble_eq_true rfl) dX7_setReference_31 (Nat.le_of_ble_eq_true rfl) (Nat.le_of_ble_eq_true rfl) (fun r4 M3 H locs hp hw hS hz hk => ?_)
      obtain ⟨hrt5, hmt5, hft5⟩ := hp
      rw [hrt5]
      have frt5 := mFr.tr mFr.rf hft5
      have hxt5 : M3 x = some (.inr (8, [.int (rdH (mH w (aA w si kd ky (!decide (rf = -1) || decide (kd = 0))))), .ref (ad 1), .ref (ad 2), .ref (ad 3), .ref (ad 4), .ref (ad 5), .ref (ad 6), .ref (ad 7), .ref (ad 8), .ref (ad 9), .ref (ad 10), .ref (ad 11), .ref (ad 12), .ref (ad 13), .int (nI (rdN (mH w (aA w si kd ky (!decide (rf = -1) || decide (kd = 0)))))), .ref (ad 15)])) := hmt5.1
      refine lv_istore (lv' := [(6, .int (bI (decide ((aA w si kd ky (!decide (rf = -1) || decide (kd = 0))) = 0)))), (5, .int (bI (decide (rf = -1)))), (0, .ref x), (1, .int si), (2, .int kd), (3, .int ky), (4, .int rf)]) hx hb dX7_setReference_34 hl (by decide) rfl (fun ls hl => ?_)
      refine lv_iload hx hb dX7_setReference_36 (lv_at hl 0 rfl) ?_
      refine lv_if_eq (tgt := 84) hx hb dX7_setReference_38 (by decide) (fun c_38 => ?_) (fun c_38 => ?_)
      · have hA : ¬ aA w si kd ky (!decide (rf = -1) || decide (kd = 0)) = 0 := of_decide_eq_false (((bI_0 _).mp c_38))
        have hC : aSR w si kd ky rf = aA w si kd ky (!decide (rf = -1) || decide (kd = 0)) := if_neg hA
        exact m_vret X hK hw hS ⟨frt5, Or.inr ⟨by rw [hC]; exact hA, by rw [hC]; exact hmt5⟩⟩ (by omega) (by omega) dX7_setReference_84
      · have h0 : aA w si kd ky (!decide (rf = -1) || decide (kd = 0)) = 0 := of_decide_eq_true (bI_t c_38)
        obtain ⟨i, k, j, ⟨hi, ei⟩, ⟨hk2, ek⟩, hb9, ⟨hjk, ej⟩, hkn⟩ := aA_0 (fun k hk => hm.kb hk) h0
        have hjb := hm.kb hk2
        have hj2 : j < 1024 := by omega
        have hm0 : MW G M3 x ad (mH w 0) := by have h9 := hmt5; rw [h0] at h9; exact h9
        have hxo0 : M3 x = some (.inr (8, [.int (rdH (mH w 0)), .ref (ad 1), .ref (ad 2), .ref (ad 3), .ref (ad 4), .ref (ad 5), .ref (ad 6), .ref (ad 7), .ref (ad 8), .ref (ad 9), .ref (ad 10), .ref (ad 11), .ref (ad 12), .ref (ad 13), .int (nI (rdN (mH w 0))), .ref (ad 15)])) := hm0.1
        refine lv_aload_n hx hb dX7_setReference_41 rfl (lv_at hl 2 rfl) ?_
        refine lv_iload hx hb dX7_setReference_42 (lv_at hl 1 rfl) ?_
        refine lv_if_ne (tgt := 60) hx hb dX7_setReference_44 (by decide) (fun c_44 => ?_) (fun c_44 => ?_)
        · refine lv_iconst (v := 0) hx hb dX7_setReference_60 (by decide) ?_
          refine lv_goto (tgt := 65) hx hb dX7_setReference_61 (by decide) ?_
          have si9 : si.toNatClampNeg = i := by rw [ei]; exact nI_clamp (by omega)
          have kd9 : kd.toNatClampNeg = k := by rw [ek]; exact nI_clamp (by omega)
          have hC : aSR w si kd ky rf = 0 := by unfold aSR; rw [if_pos h0]; simp [si9, kd9, (bI_t c_44)]
          refine m_callVi X (ci := 8) rfl hxo0 hK hw hZ hS hA (As := [.int 0]) (rest := []) (c_holds l G dce _ M3 x ad (mH w 0) hm0 0) (cwV 1 hts gX7_setReference_X7_holds rfl rfl rfl (by decide +kernel) ⟨Nat.le_of_ble_eq_true rfl, Nat.le_of_ble_eq_true rfl⟩) rfl hl.1 rfl (Nat.le_of_ble_eq_true rfl) dX7_setReference_65 (Nat.le_of_ble_eq_true rfl) (Nat.le_of_ble_eq_true rfl) (fun r7 M6 H locs hp hw hS hz hk => ?_)
          obtain ⟨hrt8, hmt8, hft8⟩ := hp
          rw [hrt8]
          have frt8 := mFr.tr frt5 hft8
          have hxt8 : M6 x = some (.inr (8, [.int (rdH (mH (mH w 0) 0)), .ref (ad 1), .ref (ad 2), .ref (ad 3), .ref (ad 4), .ref (ad 5), .ref (ad 6), .ref (ad 7), .ref (ad 8), .ref (ad 9), .ref (ad 10), .ref (ad 11), .ref (ad 12), .ref (ad 13), .int (nI (rdN (mH (mH w 0) 0))), .ref (ad 15)])) := hmt8.1
          rw [show bI (decide ((0 : Int32) = 0)) = 1 from by decide]
          refine lv_if_eq (tgt := 84) hx hb dX7_setReference_68 (by decide) (fun c_68 => absurd c_68 (by decide)) (fun _ => ?_)
          refine lv_aload_n hx hb dX7_setReference_71 rfl (lv_at hl 2 rfl) ?_
          refine m_get X iX7 hK hw hxt8 rfl 10 (by decide) (ref := "ObjectMapperModel") (by decide +kernel) (Or.inl rfl) rfl dX7_setReference_72 ?_
          refine lv_iload_n hx hb dX7_setReference_75 rfl (lv_at hl 3 rfl) ?_
          refine lv_iload_n hx hb dX7_setReference_76 rfl (lv_at hl 4 rfl) ?_
          refine lv_iload_n hx hb dX7_setReference_77 rfl (lv_at hl 5 rfl) ?_
          refine m_callSi X hK hw hZ hS hA (As := [.int si, .int kd, .int ky]) (rest := [.ref (ad 10)]) (c_atK l G dce _ M6 i k j si ei kd ek ky ej) (va_cwS 3 hts gX7_setReference_X7_at rfl rfl rfl (by decide +kernel) ⟨Nat.le_of_ble_eq_true rfl, Nat.le_of_ble_eq_true rfl⟩) rfl hl.1 rfl (Nat.le_of_ble_eq_true rfl) dX7_setReference_78 (Nat.le_of_ble_eq_true rfl) (Nat.le_of_ble_eq_true rfl) (fun r10 M9 H locs hp hw hS hz hk => ?_)
          rw [hp.2] at hw
          rw [hp.1]
          refine lv_iload hx hb dX7_setReference_81 (lv_at hl 6 rfl) ?_
          have ix12 : ((nI (aP i k j)) : Int32) = nI (aP i k j) := rfl
          have ix12b : (aP i k j) < 6144 := (aP_lt hi hk2 hj2)
          refine m_iast X hK hw hS (hmt8.a10) (i := (nI (aP i k j))) (x := rf) (by rw [ix12]; exact vp_in_nI ix12b (by decide)) dX7_setReference_83 (fun M11 H locs eM11 hw hS => ?_)
          rw [show ((nI (aP i k j)) : Int32).toNatClampNeg = (aP i k j) from by rw [ix12]; exact nI_clamp (by omega)] at eM11
          obtain ⟨wt13, ewt13⟩ : ∃ w9, w9 = mS (mH (mH w 0) 0) 10 (aP i k j) rf := ⟨_, rfl⟩
          have hmt13 : MW G M11 x ad wt13 := by rw [ewt13]; exact hmt8.set10 eM11
          have frt13 := mFr.tr frt8 (mFr.wr (x := x) (ad := ad) (a := 10) (by decide) eM11)
          have hxt13 : M11 x = some (.inr (8, [.int (rdH wt13), .ref (ad 1), .ref (ad 2), .ref (ad 3), .ref (ad 4), .ref (ad 5), .ref (ad 6), .ref (ad 7), .ref (ad 8), .ref (ad 9), .ref (ad 10), .ref (ad 11), .ref (ad 12), .ref (ad 13), .int (nI (rdN wt13)), .ref (ad 15)])) := hmt13.1
          exact m_vret X hK hw hS ⟨frt13, Or.inl ⟨hC, i, k, j, ⟨hi, ei⟩, ⟨hk2, ek⟩, ⟨hjk, ej⟩, hkn, by simp [(bI_t c_44)], by rw [← ewt13]; exact hmt13⟩⟩ (by omega) (by omega) dX7_setReference_84
        · refine lv_aload_n hx hb dX7_setReference_47 rfl (lv_at hl 2 rfl) ?_
          refine lv_iload_n hx hb dX7_setReference_48 rfl (lv_at hl 3 rfl) ?_
          refine lv_iconst (v := 1) hx hb dX7_setReference_49 (by decide) ?_
          refine lv_iload_n hx hb dX7_setReference_50 rfl (lv_at hl 4 rfl) ?_
          refine lv_isub hx hb dX7_setReference_51 ?_
          rw [show (1 : Int32) - kd = nI (1 - k) from by rw [ek]; exact nI_1sub hk2]
          refine lv_iload hx hb dX7_setReference_52 (lv_at hl 6 rfl) ?_
          refine m_callVi X (ci := 8) rfl hxo0 hK hw hZ hS hA (As := [.int si, .int (nI (1 - k)), .int rf]) (rest := [.ref x]) (c_knowsK l G dce _ M3 x ad (mH w 0) hm0 i (1 - k) hi (by omega) rf si ei (nI (1 - k)) rfl) (cwV 3 hts gX7_setReference_X7_knows rfl rfl rfl (by decide +kernel) ⟨Nat.le_of_ble_eq_true rfl, Nat.le_of_ble_eq_true rfl⟩) rfl hl.1 rfl (Nat.le_of_ble_eq_true rfl) dX7_setReference_54 (Nat.le_of_ble_eq_true rfl) (Nat.le_of_ble_eq_true rfl) (fun r15 M14 H locs hp hw hS hz hk => ?_)
          rw [hp.2] at hw
          rw [hp.1]
          refine lv_if_eq (tgt := 64) hx hb dX7_setReference_57 (by decide) (fun c_57 => ?_) (fun c_57 => ?_)
          · refine lv_iconst (v := 3) hx hb dX7_setReference_64 (by decide) ?_
            have si9 : si.toNatClampNeg = i := by rw [ei]; exact nI_clamp (by omega)
            have kd9 : kd.toNatClampNeg = k := by rw [ek]; exact nI_clamp (by omega)
            have hC : aSR w si kd ky rf = 3 := by unfold aSR; rw [if_pos h0]; simp [si9, kd9, ((bI_0 _).mp c_44), (mKn_H w 0 ▸ ((bI_0 _).mp c_57))]
            refine m_callVi X (ci := 8) rfl hxo0 hK hw hZ hS hA (As := [.int 3]) (rest := []) (c_holds l G dce _ M3 x ad (mH w 0) hm0 3) (cwV 1 hts gX7_setReference_X7_holds rfl rfl rfl (by decide +kernel) ⟨Nat.le_of_ble_eq_true rfl, Nat.le_of_ble_eq_true rfl⟩) rfl hl.1 rfl (Nat.le_of_ble_eq_true rfl) dX7_setReference_65 (Nat.le_of_ble_eq_true rfl) (Nat.le_of_ble_eq_true rfl) (fun r17 M16 H locs hp hw hS hz hk => ?_)
            obtain ⟨hrt18, hmt18, hft18⟩ := hp
            rw [hrt18]
            have frt18 := mFr.tr frt5 hft18
            have hxt18 : M16 x = some (.inr (8, [.int (rdH (mH (mH w 0) 3)), .ref (ad 1), .ref (ad 2), .ref (ad 3), .ref (ad 4), .ref (ad 5), .ref (ad 6), .ref (ad 7), .ref (ad 8), .ref (ad 9), .ref (ad 10), .ref (ad 11), .ref (ad 12), .ref (ad 13), .int (nI (rdN (mH (mH w 0) 3))), .ref (ad 15)])) := hmt18.1
            rw [show bI (decide ((3 : Int32) = 0)) = 0 from by decide]
            refine lv_if_eq (tgt := 84) hx hb dX7_setReference_68 (by decide) (fun _ => ?_) (fun c_68 => absurd (by decide) c_68)
            exact m_vret X hK hw hS ⟨frt18, Or.inr ⟨by rw [hC]; decide, by rw [hC]; exact hmt18⟩⟩ (by omega) (by omega) dX7_setReference_84
          · refine lv_iconst (v := 0) hx hb dX7_setReference_60 (by decide) ?_
            refine lv_goto (tgt := 65) hx hb dX7_setReference_61 (by decide) ?_
            have si9 : si.toNatClampNeg = i := by rw [ei]; exact nI_clamp (by omega)
            have kd9 : kd.toNatClampNeg = k := by rw [ek]; exact nI_clamp (by omega)
            have hC : aSR w si kd ky rf = 0 := by unfold aSR; rw [if_pos h0]; simp [si9, kd9, ((bI_0 _).mp c_44), (mKn_H w 0 ▸ (bI_t c_57))]
            refine m_callVi X (ci := 8) rfl hxo0 hK hw hZ hS hA (As := [.int 0]) (rest := []) (c_holds l G dce _ M3 x ad (mH w 0) hm0 0) (cwV 1 hts gX7_setReference_X7_holds rfl rfl rfl (by decide +kernel) ⟨Nat.le_of_ble_eq_true rfl, Nat.le_of_ble_eq_true rfl⟩) rfl hl.1 rfl (Nat.le_of_ble_eq_true rfl) dX7_setReference_65 (Nat.le_of_ble_eq_true rfl) (Nat.le_of_ble_eq_true rfl) (fun r20 M19 H locs hp hw hS hz hk => ?_)
            obtain ⟨hrt21, hmt21, hft21⟩ := hp
            rw [hrt21]
            have frt21 := mFr.tr frt5 hft21
            have hxt21 : M19 x = some (.inr (8, [.int (rdH (mH (mH w 0) 0)), .ref (ad 1), .ref (ad 2), .ref (ad 3), .ref (ad 4), .ref (ad 5), .ref (ad 6), .ref (ad 7), .ref (ad 8), .ref (ad 9), .ref (ad 10), .ref (ad 11), .ref (ad 12), .ref (ad 13), .int (nI (rdN (mH (mH w 0) 0))), .ref (ad 15)])) := hmt21.1
            rw [show bI (decide ((0 : Int32) = 0)) = 1 from by decide]
            refine lv_if_eq (tgt := 84) hx hb dX7_setReference_68 (by decide) (fun c_68 => absurd c_68 (by decide)) (fun _ => ?_)
            refine lv_aload_n hx hb dX7_setReference_71 rfl (lv_at hl 2 rfl) ?_
            refine m_get X iX7 hK hw hxt21 rfl 10 (by decide) (ref := "ObjectMapperModel") (by decide +kernel) (Or.inl rfl) rfl dX7_setReference_72 ?_
            refine lv_iload_n hx hb dX7_setReference_75 rfl (lv_at hl 3 rfl) ?_
            refine lv_iload_n hx hb dX7_setReference_76 rfl (lv_at hl 4 rfl) ?_
            refine lv_iload_n hx hb dX7_setReference_77 rfl (lv_at hl 5 rfl) ?_
            refine m_callSi X hK hw hZ hS hA (As := [.int si, .int kd, .int ky]) (rest := [.ref (ad 10)]) (c_atK l G dce _ M19 i k j si ei kd ek ky ej) (va_cwS 3 hts gX7_setReference_X7_at rfl rfl rfl (by decide +kernel) ⟨Nat.le_of_ble_eq_true rfl, Nat.le_of_ble_eq_true rfl⟩) rfl hl.1 rfl (Nat.le_of_ble_eq_true rfl) dX7_setReference_78 (Nat.le_of_ble_eq_true rfl) (Nat.le_of_ble_eq_true rfl) (fun r23 M22 H locs hp hw hS hz hk => ?_)
            rw [hp.2] at hw
            rw [hp.1]
            refine lv_iload hx hb dX7_setReference_81 (lv_at hl 6 rfl) ?_
            have ix25 : ((nI (aP i k j)) : Int32) = nI (aP i k j) := rfl
            have ix25b : (aP i k j) < 6144 := (aP_lt hi hk2 hj2)
            refine m_iast X hK hw hS (hmt21.a10) (i := (nI (aP i k j))) (x := rf) (by rw [ix25]; exact vp_in_nI ix25b (by decide)) dX7_setReference_83 (fun M24 H locs eM24 hw hS => ?_)
            rw [show ((nI (aP i k j)) : Int32).toNatClampNeg = (aP i k j) from by rw [ix25]; exact nI_clamp (by omega)] at eM24
            obtain ⟨wt26, ewt26⟩ : ∃ w9, w9 = mS (mH (mH w 0) 0) 10 (aP i k j) rf := ⟨_, rfl⟩
            have hmt26 : MW G M24 x ad wt26 := by rw [ewt26]; exact hmt21.set10 eM24
            have frt26 := mFr.tr frt21 (mFr.wr (x := x) (ad := ad) (a := 10) (by decide) eM24)
            have hxt26 : M24 x = some (.inr (8, [.int (rdH wt26), .ref (ad 1), .ref (ad 2), .ref (ad 3), .ref (ad 4), .ref (ad 5), .ref (ad 6), .ref (ad 7), .ref (ad 8), .ref (ad 9), .ref (ad 10), .ref (ad 11), .ref (ad 12), .ref (ad 13), .int (nI (rdN wt26)), .ref (ad 15)])) := hmt26.1
            exact m_vret X hK hw hS ⟨frt26, Or.inl ⟨hC, i, k, j, ⟨hi, ei⟩, ⟨hk2, ek⟩, ⟨hjk, ej⟩, hkn, by simp [((bI_0 _).mp c_44), (mKn_H w 0 ▸ (bI_t c_57))], by rw [← ewt26]; exact hmt26⟩⟩ (by omega) (by omega) dX7_setReference_84
    refine lv_iload hx hb dX7_setReference_17 (lv_at hl 0 rfl) ?_
    refine lv_if_eq (tgt := 26) hx hb dX7_setReference_19 (by decide) (fun c_19 => ?_) (fun c_19 => ?_)
    · refine lv_iconst (v := 1) hx hb dX7_setReference_26 (by decide) ?_
      refine lv_goto (tgt := 31) hx hb dX7_setReference_27 (by decide) ?_
      exact jn17_q2 _ _ _ (by simp [bI, ((bI_0 _).mp c_19)]) hw hS
    · refine lv_iload_n hx hb dX7_setReference_22 rfl (lv_at hl 3 rfl) ?_
      refine lv_if_ne (tgt := 30) hx hb dX7_setReference_23 (by decide) (fun c_23 => ?_) (fun c_23 => ?_)
      · refine lv_iconst (v := 0) hx hb dX7_setReference_30 (by decide) ?_
        exact jn17_q2 _ _ _ (by simp [bI, (bI_t c_19), c_23]) hw hS
      · refine lv_iconst (v := 1) hx hb dX7_setReference_26 (by decide) ?_
        refine lv_goto (tgt := 31) hx hb dX7_setReference_27 (by decide) ?_
        exact jn17_q2 _ _ _ (by simp [bI, (bI_t c_19), c_23]) hw hS
  refine lv_iload hx hb dX7_setReference_0 (lv_at hl 4 rfl) ?_
  refine lv_iconst (v := (-1)) hx hb dX7_setReference_2 (by decide) ?_
  refine lv_icmp_ne (tgt := 10) hx hb dX7_setReference_3 (by decide) (fun c_3 => ?_) (fun c_3 => ?_)
  · refine lv_iconst (v := 0) hx hb dX7_setReference_10 (by decide) ?_
    exact jn0_q1 _ _ _ (by simp [bI, c_3]) hw hS
  · refine lv_iconst (v := 1) hx hb dX7_setReference_6 (by decide) ?_
    refine lv_goto (tgt := 11) hx hb dX7_setReference_7 (by decide) ?_
    exact jn0_q1 _ _ _ (by simp [bI, c_3]) hw hS
