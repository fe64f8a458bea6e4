/-- whether a flush fails -/
def mCan (w : mW) (i : Nat) : Bool := mThs w i && mWhs (mWbs i w) i
def aFl (w : mW) (si : Int32) : Int32 := if sOK si = true then (if mCan w si.toNatClampNeg = true then 0 else 2) else 1
set_option maxHeartbeats 4000000 in
set_option maxRecDepth 100000 in
theorem c_mFlush (l : Launch) (G : gG) (dce sz : Nat) (M : gM) (x : Nat) (ad : Nat → Nat) (w : mW) (hm : MW G M x ad w) (hI : mInv w) (hN : rdN w + 6144 < 2 ^ 31) (si : Int32) : mI l yX7_flush wsX7_flush ({ frames := 4, cells := 0, slots := 0, locals := 95 }) G dce sz M [.ref x, .int si] (fun r M' => mFr x ad M M' ∧ (((aFl w si) = 0 ∧ ∃ i, aS si i ∧ r = nI (rdN (mFl i (mH (mWbs i w) 0)) - rdN w) ∧ MW G M' x ad (mFl i (mH (mWbs i w) 0))) ∨ ((aFl w si) ≠ 0 ∧ ∃ w1, (mLk w w1 ∧ rdH w1 = aFl w si) ∧ MW G M' x ad w1))) (0) (0) := by
  have hx0 : M x = some (.inr (8, [.int (rdH w), .ref (ad 1), .ref (ad 2), .ref (ad 3), .ref (ad 4), .ref (ad 5), .ref (ad 6), .ref (ad 7), .ref (ad 8), .ref (ad 9), .ref (ad 10), .ref (ad 11), .ref (ad 12), .ref (ad 13), .int (nI (rdN w)), .ref (ad 15)])) := hm.1
  refine wMet (Qc := QI G _) (cc := cX7_flush) (maxL := 7) (ret := (some .int)) (by decide) rfl (Nat.le_of_ble_eq_true rfl) ?_
  intro p e s m below meth c A ls X hnm hw hK hZ hA hS hsz eA hl
  obtain ⟨hx, hb, hr, hts, hown, hlk, hml⟩ := id X
  have hl : lv_has ls 7 [(0, .ref x), (1, .int si)] := hl
  have iX7 : ∀ w ∈ wsX70, w ∈ wsX7_flush := by decide +kernel
  refine lv_iload_n hx hb dX7_flush_0 rfl (lv_at hl 1 rfl) ?_
  refine m_callSi X hK hw hZ hS hA (As := [.int si]) (rest := []) (c_X7_isSession l G dce _ M si) (va_cwS 1 hts gX7_flush_X7_isSession rfl rfl rfl (by decide +kernel) ⟨Nat.le_of_ble_eq_true rfl, Nat.le_of_ble_eq_true rfl⟩) rfl hl.1 rfl (Nat.le_of_ble_eq_true rfl) dX7_flush_1 (Nat.le_of_ble_eq_true rfl) (Nat.le_of_ble_eq_true rfl) (fun r2 M1 H locs hp hw hS hz hk => ?_)
  rw [hp.2] at hw
  rw [hp.1]
  refine lv_istore_n (lv' := [(2, .int (bI (sOK si))), (0, .ref x), (1, .int si)]) hx hb dX7_flush_4 rfl hl (by decide) rfl (fun ls hl => ?_)
  refine lv_iload_n hx hb dX7_flush_5 rfl (lv_at hl 0 rfl) ?_
  refine lv_if_eq (tgt := 29) hx hb dX7_flush_6 (by decide) (fun c_6 => ?_) (fun c_6 => ?_)
  · refine lv_iconst (v := 0) hx hb dX7_flush_29 (by decide) ?_
    refine lv_istore_n (lv' := [(3, .int 0), (2, .int (bI (sOK si))), (0, .ref x), (1, .int si)]) hx hb dX7_flush_30 rfl hl (by decide) rfl (fun ls hl => ?_)
    refine lv_aload_n hx hb dX7_flush_31 rfl (lv_at hl 2 rfl) ?_
    refine lv_iload_n hx hb dX7_flush_32 rfl (lv_at hl 1 rfl) ?_
    refine lv_if_ne (tgt := 40) hx hb dX7_flush_33 (by decide) (fun c_33 => ?_) (fun c_33 => ?_)
    · exact absurd c_6 c_33
    · refine lv_iconst (v := 1) hx hb dX7_flush_36 (by decide) ?_
      refine lv_goto (tgt := 49) hx hb dX7_flush_37 (by decide) ?_
      have hC : aFl w si = 1 := by simp [aFl, mCan, ((bI_0 _).mp c_6)]
      refine m_callVi X (ci := 8) rfl hx0 hK hw hZ hS hA (As := [.int 1]) (rest := []) (c_holds l G dce _ M x ad w hm 1) (cwV 1 hts gX7_flush_X7_holds rfl rfl rfl (by decide +kernel) ⟨Nat.le_of_ble_eq_true rfl, Nat.le_of_ble_eq_true rfl⟩) rfl hl.1 rfl (Nat.le_of_ble_eq_true rfl) dX7_flush_49 (Nat.le_of_ble_eq_true rfl) (Nat.le_of_ble_eq_true rfl) (fun r4 M3 H locs hp hw hS hz hk => ?_)
      obtain ⟨hrt5, hmt5, hft5⟩ := hp
      rw [hrt5]
      have frt5 := mFr.tr mFr.rf hft5
      have hxt5 : M3 x = some (.inr (8, [.int (rdH (mH w 1)), .ref (ad 1), .ref (ad 2), .ref (ad 3), .ref (ad 4), .ref (ad 5), .ref (ad 6), .ref (ad 7), .ref (ad 8), .ref (ad 9), .ref (ad 10), .ref (ad 11), .ref (ad 12), .ref (ad 13), .int (nI (rdN (mH w 1))), .ref (ad 15)])) := hmt5.1
      rw [show bI (decide ((1 : Int32) = 0)) = 0 from by decide]
      refine lv_if_ne (tgt := 57) hx hb dX7_flush_52 (by decide) (fun c_52 => absurd (by decide) c_52) (fun _ => ?_)
      refine lv_iconst (v := 0) hx hb dX7_flush_55 (by decide) ?_
      exact m_iret X hK hw hS ⟨frt5, Or.inr ⟨by rw [hC]; decide, mH w 1, ⟨mLk.H, by rw [hC]; rfl⟩, hmt5⟩⟩ (by omega) (by omega) dX7_flush_56
  · obtain ⟨i, hi, ei⟩ := sOK_i (bI_t c_6)
    have si9 : si.toNatClampNeg = i := by rw [ei]; exact nI_clamp (by omega)
    refine lv_aload_n hx hb dX7_flush_9 rfl (lv_at hl 1 rfl) ?_
    refine lv_iload_n hx hb dX7_flush_10 rfl (lv_at hl 2 rfl) ?_
    refine m_callVi X (ci := 8) rfl hx0 hK hw hZ hS hA (As := [.int si]) (rest := []) (c_areThereK l G dce _ M x ad w hm i hi si ei) (cwV 1 hts gX7_flush_X7_areThere rfl rfl rfl (by decide +kernel) ⟨Nat.le_of_ble_eq_true rfl, Nat.le_of_ble_eq_true rfl⟩) rfl hl.1 rfl (Nat.le_of_ble_eq_true rfl) dX7_flush_11 (Nat.le_of_ble_eq_true rfl) (Nat.le_of_ble_eq_true rfl) (fun r7 M6 H locs hp hw hS hz hk => ?_)
    obtain ⟨hrt8, hmt8, hft8⟩ := hp
    rw [hrt8]
    have frt8 := mFr.tr mFr.rf hft8
    have hxt8 : M6 x = some (.inr (8, [.int (rdH (mWbs i w)), .ref (ad 1), .ref (ad 2), .ref (ad 3), .ref (ad 4), .ref (ad 5), .ref (ad 6), .ref (ad 7), .ref (ad 8), .ref (ad 9), .ref (ad 10), .ref (ad 11), .ref (ad 12), .ref (ad 13), .int (nI (rdN (mWbs i w))), .ref (ad 15)])) := hmt8.1
    refine lv_if_eq (tgt := 29) hx hb dX7_flush_14 (by decide) (fun c_14 => ?_) (fun c_14 => ?_)
    · refine lv_iconst (v := 0) hx hb dX7_flush_29 (by decide) ?_
      refine lv_istore_n (lv' := [(3, .int 0), (2, .int (bI (sOK si))), (0, .ref x), (1, .int si)]) hx hb dX7_flush_30 rfl hl (by decide) rfl (fun ls hl => ?_)
      refine lv_aload_n hx hb dX7_flush_31 rfl (lv_at hl 2 rfl) ?_
      refine lv_iload_n hx hb dX7_flush_32 rfl (lv_at hl 1 rfl) ?_
      refine lv_if_ne (tgt := 40) hx hb dX7_flush_33 (by decide) (fun c_33 => ?_) (fun c_33 => ?_)
      · refine lv_iload_n hx hb dX7_flush_40 rfl (lv_at hl 0 rfl) ?_
        refine lv_if_eq (tgt := 48) hx hb dX7_flush_41 (by decide) (fun _ => ?_) (fun c_41 => absurd (by decide) c_41)
        refine lv_iconst (v := 2) hx hb dX7_flush_48 (by decide) ?_
        have hC : aFl w si = 2 := by simp [aFl, mCan, (bI_t c_6), ((bI_0 _).mp c_14), si9]
        refine m_callVi X (ci := 8) rfl hxt8 hK hw hZ hS hA (As := [.int 2]) (rest := []) (c_holds l G dce _ M6 x ad (mWbs i w) hmt8 2) (cwV 1 hts gX7_flush_X7_holds rfl rfl rfl (by decide +kernel) ⟨Nat.le_of_ble_eq_true rfl, Nat.le_of_ble_eq_true rfl⟩) rfl hl.1 rfl (Nat.le_of_ble_eq_true rfl) dX7_flush_49 (Nat.le_of_ble_eq_true rfl) (Nat.le_of_ble_eq_true rfl) (fun r10 M9 H locs hp hw hS hz hk => ?_)
        obtain ⟨hrt11, hmt11, hft11⟩ := hp
        rw [hrt11]
        have frt11 := mFr.tr frt8 hft11
        have hxt11 : M9 x = some (.inr (8, [.int (rdH (mH (mWbs i w) 2)), .ref (ad 1), .ref (ad 2), .ref (ad 3), .ref (ad 4), .ref (ad 5), .ref (ad 6), .ref (ad 7), .ref (ad 8), .ref (ad 9), .ref (ad 10), .ref (ad 11), .ref (ad 12), .ref (ad 13), .int (nI (rdN (mH (mWbs i w) 2))), .ref (ad 15)])) := hmt11.1
        rw [show bI (decide ((2 : Int32) = 0)) = 0 from by decide]
        refine lv_if_ne (tgt := 57) hx hb dX7_flush_52 (by decide) (fun c_52 => absurd (by decide) c_52) (fun _ => ?_)
        refine lv_iconst (v := 0) hx hb dX7_flush_55 (by decide) ?_
        exact m_iret X hK hw hS ⟨frt11, Or.inr ⟨by rw [hC]; decide, mH (mWbs i w) 2, ⟨mWbs_L.tr mLk.H, by rw [hC]; rfl⟩, hmt11⟩⟩ (by omega) (by omega) dX7_flush_56
      · exact absurd c_33 c_6
    · refine lv_aload_n hx hb dX7_flush_17 rfl (lv_at hl 1 rfl) ?_
      refine lv_iload_n hx hb dX7_flush_18 rfl (lv_at hl 2 rfl) ?_
      refine m_callVi X (ci := 8) rfl hxt8 hK hw hZ hS hA (As := [.int si]) (rest := []) (c_areWholeK l G dce _ M6 x ad (mWbs i w) hmt8 i hi (mWp_of hI hi) si ei) (cwV 1 hts gX7_flush_X7_areWhole rfl rfl rfl (by decide +kernel) ⟨Nat.le_of_ble_eq_true rfl, Nat.le_of_ble_eq_true rfl⟩) rfl hl.1 rfl (Nat.le_of_ble_eq_true rfl) dX7_flush_19 (Nat.le_of_ble_eq_true rfl) (Nat.le_of_ble_eq_true rfl) (fun r13 M12 H locs hp hw hS hz hk => ?_)
      rw [hp.2] at hw
      rw [hp.1]
      refine lv_if_eq (tgt := 29) hx hb dX7_flush_22 (by decide) (fun c_22 => ?_) (fun c_22 => ?_)
      · refine lv_iconst (v := 0) hx hb dX7_flush_29 (by decide) ?_
        refine lv_istore_n (lv' := [(3, .int 0), (2, .int (bI (sOK si))), (0, .ref x), (1, .int si)]) hx hb dX7_flush_30 rfl hl (by decide) rfl (fun ls hl => ?_)
        refine lv_aload_n hx hb dX7_flush_31 rfl (lv_at hl 2 rfl) ?_
        refine lv_iload_n hx hb dX7_flush_32 rfl (lv_at hl 1 rfl) ?_
        refine lv_if_ne (tgt := 40) hx hb dX7_flush_33 (by decide) (fun c_33 => ?_) (fun c_33 => ?_)
        · refine lv_iload_n hx hb dX7_flush_40 rfl (lv_at hl 0 rfl) ?_
          refine lv_if_eq (tgt := 48) hx hb dX7_flush_41 (by decide) (fun _ => ?_) (fun c_41 => absurd (by decide) c_41)
          refine lv_iconst (v := 2) hx hb dX7_flush_48 (by decide) ?_
          have hC : aFl w si = 2 := by simp [aFl, mCan, (bI_t c_6), (bI_t c_14), ((bI_0 _).mp c_22), si9]
          refine m_callVi X (ci := 8) rfl hxt8 hK hw hZ hS hA (As := [.int 2]) (rest := []) (c_holds l G dce _ M6 x ad (mWbs i w) hmt8 2) (cwV 1 hts gX7_flush_X7_holds rfl rfl rfl (by decide +kernel) ⟨Nat.le_of_ble_eq_true rfl, Nat.le_of_ble_eq_true rfl⟩) rfl hl.1 rfl (Nat.le_of_ble_eq_true rfl) dX7_flush_49 (Nat.le_of_ble_eq_true rfl) (Nat.le_of_ble_eq_true rfl) (fun r15 M14 H locs hp hw hS hz hk => ?_)
          obtain ⟨hrt16, hmt16, hft16⟩ := hp
          rw [hrt16]
          have frt16 := mFr.tr frt8 hft16
          have hxt16 : M14 x = some (.inr (8, [.int (rdH (mH (mWbs i w) 2)), .ref (ad 1), .ref (ad 2), .ref (ad 3), .ref (ad 4), .ref (ad 5), .ref (ad 6), .ref (ad 7), .ref (ad 8), .ref (ad 9), .ref (ad 10), .ref (ad 11), .ref (ad 12), .ref (ad 13), .int (nI (rdN (mH (mWbs i w) 2))), .ref (ad 15)])) := hmt16.1
          rw [show bI (decide ((2 : Int32) = 0)) = 0 from by decide]
          refine lv_if_ne (tgt := 57) hx hb dX7_flush_52 (by decide) (fun c_52 => absurd (by decide) c_52) (fun _ => ?_)
          refine lv_iconst (v := 0) hx hb dX7_flush_55 (by decide) ?_
          exact m_iret X hK hw hS ⟨frt16, Or.inr ⟨by rw [hC]; decide, mH (mWbs i w) 2, ⟨mWbs_L.tr mLk.H, by rw [hC]; rfl⟩, hmt16⟩⟩ (by omega) (by omega) dX7_flush_56
        · exact absurd c_33 c_6
      · refine lv_iconst (v := 1) hx hb dX7_flush_25 (by decide) ?_
        refine lv_goto (tgt := 30) hx hb dX7_flush_26 (by decide) ?_
        refine lv_istore_n (lv' := [(3, .int 1), (2, .int (bI (sOK si))), (0, .ref x), (1, .int si)]) hx hb dX7_flush_30 rfl hl (by decide) rfl (fun ls hl => ?_)
        refine lv_aload_n hx hb dX7_flush_31 rfl (lv_at hl 2 rfl) ?_
        refine lv_iload_n hx hb dX7_flush_32 rfl (lv_at hl 1 rfl) ?_
        refine lv_if_ne (tgt := 40) hx hb dX7_flush_33 (by decide) (fun c_33 => ?_) (fun c_33 => ?_)
        · refine lv_iload_n hx hb dX7_flush_40 rfl (lv_at hl 0 rfl) ?_
          refine lv_if_eq (tgt := 48) hx hb dX7_flush_41 (by decide) (fun c_41 => absurd c_41 (by decide)) (fun _ => ?_)
          refine lv_iconst (v := 0) hx hb dX7_flush_44 (by decide) ?_
          refine lv_goto (tgt := 49) hx hb dX7_flush_45 (by decide) ?_
          have hC : aFl w si = 0 := by simp [aFl, mCan, (bI_t c_6), (bI_t c_14), (bI_t c_22), si9]
          refine m_callVi X (ci := 8) rfl hxt8 hK hw hZ hS hA (As := [.int 0]) (rest := []) (c_holds l G dce _ M6 x ad (mWbs i w) hmt8 0) (cwV 1 hts gX7_flush_X7_holds rfl rfl rfl (by decide +kernel) ⟨Nat.le_of_ble_eq_true rfl, Nat.le_of_ble_eq_true rfl⟩) rfl hl.1 rfl (Nat.le_of_ble_eq_true rfl) dX7_flush_49 (Nat.le_of_ble_eq_true rfl) (Nat.le_of_ble_eq_true rfl) (fun r18 M17 H locs hp hw hS hz hk => ?_)
          obtain ⟨hrt19, hmt19, hft19⟩ := hp
          rw [hrt19]
          have frt19 := mFr.tr frt8 hft19
          have hxt19 : M17 x = some (.inr (8, [.int (rdH (mH (mWbs i w) 0)), .ref (ad 1), .ref (ad 2), .ref (ad 3), .ref (ad 4), .ref (ad 5), .ref (ad 6), .ref (ad 7), .ref (ad 8), .ref (ad 9), .ref (ad 10), .ref (ad 11), .ref (ad 12), .ref (ad 13), .int (nI (rdN (mH (mWbs i w) 0))), .ref (ad 15)])) := hmt19.1
          rw [show bI (decide ((0 : Int32) = 0)) = 1 from by decide]
          refine lv_if_ne (tgt := 57) hx hb dX7_flush_52 (by decide) (fun _ => ?_) (fun c_52 => absurd c_52 (by decide))
          have hI0 : mInv (mH (mWbs i w) 0) := (hI.lk mWbs_L).H
          have hN0 : rdN (mH (mWbs i w) 0) = rdN w := (mWbs_L (i := i) (w := w)).2.1
          have hKK0 := hI.2.2 0 (by decide)
          have hKK1 := hI.2.2 1 (by decide)
          refine lv_aload_n hx hb dX7_flush_57 rfl (lv_at hl 2 rfl) ?_
          refine m_get X iX7 hK hw hxt19 rfl 14 (by decide) (ref := "ObjectMapperModel") (by decide +kernel) (Or.inl rfl) rfl dX7_flush_58 ?_
          rw [show nI (rdN (mH (mWbs i w) 0)) = nI (rdN w) from by rw [hN0]]
          refine lv_istore (lv' := [(4, .int (nI (rdN w))), (3, .int 1), (2, .int (bI (sOK si))), (0, .ref x), (1, .int si)]) hx hb dX7_flush_61 hl (by decide) rfl (fun ls hl => ?_)
          refine lv_iconst (v := 0) hx hb dX7_flush_63 (by decide) ?_
          refine lv_istore (lv' := [(5, .int 0), (4, .int (nI (rdN w))), (3, .int 1), (2, .int (bI (sOK si))), (0, .ref x), (1, .int si)]) hx hb dX7_flush_64 hl (by decide) rfl (fun ls hl => ?_)
          refine lv_iload hx hb dX7_flush_66 (lv_at hl 0 rfl) ?_
          refine lv_iconst (v := 1) hx hb dX7_flush_68 (by decide) ?_
          refine lv_icmp_gt (tgt := 120) hx hb dX7_flush_69 (by decide) (fun c_69 => absurd c_69 (by decide)) (fun _ => ?_)
          refine lv_iconst (v := 0) hx hb dX7_flush_72 (by decide) ?_
          refine lv_istore (lv' := [(6, .int (nI 0)), (5, .int 0), (4, .int (nI (rdN w))), (3, .int 1), (2, .int (bI (sOK si))), (0, .ref x), (1, .int si)]) hx hb dX7_flush_73 hl (by decide) rfl (fun ls hl => ?_)
          have loopa : ∀ (d : Nat) (ja : Nat) (wa : mW) (Ma : gM) (H : Heap) (locs : List Loc) (ls : Array Slot), ja ≤ rdK (mH (mWbs i w) 0) 0 → rdK (mH (mWbs i w) 0) 0 + 1 ≤ ja + d → wa = itm (mIn i 0) ja (mH (mWbs i w) 0) → MW G Ma x ad wa → mFr x ad M Ma → wd G A Ma H → va_S A s.heap H locs → lv_has ls 7 [(6, .int (nI ja)), (0, .ref x), (1, .int si), (5, .int 0), (4, .int (nI (rdN w)))] → W p l e ({ frames := 4, cells := 0, slots := 0, locals := 95 }) s m [.ref x, .int si].toArray below meth c H locs (0) (0) (MQ below (QI G (fun r M' => mFr x ad M M' ∧ (((aFl w si) = 0 ∧ ∃ i, aS si i ∧ r = nI (rdN (mFl i (mH (mWbs i w) 0)) - rdN w) ∧ MW G M' x ad (mFl i (mH (mWbs i w) 0))) ∨ ((aFl w si) ≠ 0 ∧ ∃ w1, (mLk w w1 ∧ rdH w1 = aFl w si) ∧ MW G M' x ad w1))) A) [.ref x, .int si].toArray s (0) (0) A) (F0 m 75 ls []) := by
            intro d
            induction d with
            | zero => intro ja wa Ma H locs ls h1 h2; exact absurd h2 (by omega)
            | succ d ih =>
              intro ja wa Ma H locs ls hja1 hja2 hza hma hfa hw hS hl
              have hxla : Ma x = some (.inr (8, [.int (rdH wa), .ref (ad 1), .ref (ad 2), .ref (ad 3), .ref (ad 4), .ref (ad 5), .ref (ad 6), .ref (ad 7), .ref (ad 8), .ref (ad 9), .ref (ad 10), .ref (ad 11), .ref (ad 12), .ref (ad 13), .int (nI (rdN wa)), .ref (ad 15)])) := hma.1
              have hna : rdK wa = rdK (mH (mWbs i w) 0) := by rw [hza]; exact itm_K (mIn_K i 0) ja (mH (mWbs i w) 0)
              have hba : rdK (mH (mWbs i w) 0) 0 ≤ 1024 := hmt19.kb (by decide)
              have hIa : mInv wa := by rw [hza]; exact itm_I (fun j w hj h => mIn_I h hi (by decide) (by omega)) hI0
              have hNa0 : rdN wa ≤ rdN (mH (mWbs i w) 0) + ja := by rw [hza]; exact (itm_N (mIn_N i 0) ja (mH (mWbs i w) 0)).2
              have hNa : rdN wa ≤ rdN w + 1024 := by omega
              have hKba : rdK wa 0 ≤ 1024 := by rw [hna]; exact hba
              refine lv_iload hx hb dX7_flush_75 (lv_at hl 0 rfl) ?_
              refine lv_aload_n hx hb dX7_flush_77 rfl (lv_at hl 1 rfl) ?_
              refine m_get X iX7 hK hw hxla rfl 1 (by decide) (ref := "ObjectMapperModel") (by decide +kernel) (Or.inl rfl) rfl dX7_flush_78 ?_
              refine lv_iload hx hb dX7_flush_81 (lv_at hl 3 rfl) ?_
              have ix20 : (0 : Int32) = nI 0 := rfl
              have ix20b : 0 < 2 := (by decide)
              refine m_iald X hK hw (hma.a1) (i := 0) (by rw [ix20]; exact vp_in_nI ix20b (by decide)) dX7_flush_83 ?_
              rw [show (0 : Int32).toNatClampNeg = 0 from by rw [ix20]; exact nI_clamp (by omega)]
              rw [show nI (rdK wa 0) = nI (rdK (mH (mWbs i w) 0) 0) from by rw [hna]]
              refine lv_icmp_ge (tgt := 114) hx hb dX7_flush_84 (by decide) (fun c_84 => ?_) (fun c_84 => ?_)
              · have hkna : rdK (mH (mWbs i w) 0) 0 ≤ ja := (nI_leI (by omega) (by omega)).mp c_84
                have hjja : ja = rdK (mH (mWbs i w) 0) 0 := by omega
                rw [hjja] at hza
                refine lv_iinc (v := 1) (lv' := [(5, .int 1), (6, .int (nI ja)), (0, .ref x), (1, .int si), (4, .int (nI (rdN w)))]) hx hb dX7_flush_114 hl (k := 3) rfl (by decide) (by decide) rfl (fun ls hl => ?_)
                refine lv_goto (tgt := 66) hx hb dX7_flush_117 (by decide) ?_
                refine lv_iload hx hb dX7_flush_66 (lv_at hl 0 rfl) ?_
                refine lv_iconst (v := 1) hx hb dX7_flush_68 (by decide) ?_
                refine lv_icmp_gt (tgt := 120) hx hb dX7_flush_69 (by decide) (fun c_69 => absurd c_69 (by decide)) (fun _ => ?_)
                refine lv_iconst (v := 0) hx hb dX7_flush_72 (by decide) ?_
                refine lv_istore (lv' := [(6, .int (nI 0)), (5, .int 1), (0, .ref x), (1, .int si), (4, .int (nI (rdN w)))]) hx hb dX7_flush_73 hl (by decide) rfl (fun ls hl => ?_)
                have loopb : ∀ (d : Nat) (jb : Nat) (wb : mW) (Mb : gM) (H : Heap) (locs : List Loc) (ls : Array Slot), jb ≤ rdK wa 1 → rdK wa 1 + 1 ≤ jb + d → wb = itm (mIn i 1) jb wa → MW G Mb x ad wb → mFr x ad M Mb → wd G A Mb H → va_S A s.heap H locs → lv_has ls 7 [(6, .int (nI jb)), (0, .ref x), (1, .int si), (5, .int 1), (4, .int (nI (rdN w)))] → W p l e ({ frames := 4, cells := 0, slots := 0, locals := 95 }) s m [.ref x, .int si].toArray below meth c H locs (0) (0) (MQ below (QI G (fun r M' => mFr x ad M M' ∧ (((aFl w si) = 0 ∧ ∃ i, aS si i ∧ r = nI (rdN (mFl i (mH (mWbs i w) 0)) - rdN w) ∧ MW G M' x ad (mFl i (mH (mWbs i w) 0))) ∨ ((aFl w si) ≠ 0 ∧ ∃ w1, (mLk w w1 ∧ rdH w1 = aFl w si) ∧ MW G M' x ad w1))) A) [.ref x, .int si].toArray s (0) (0) A) (F0 m 75 ls []) := by
                  intro d
                  induction d with
                  | zero => intro jb wb Mb H locs ls h1 h2; exact absurd h2 (by omega)
                  | succ d ih =>
                    intro jb wb Mb H locs ls hjb1 hjb2 hzb hmb hfb hw hS hl
                    have hxlb : Mb x = some (.inr (8, [.int (rdH wb), .ref (ad 1), .ref (ad 2), .ref (ad 3), .ref (ad 4), .ref (ad 5), .ref (ad 6), .ref (ad 7), .ref (ad 8), .ref (ad 9), .ref (ad 10), .ref (ad 11), .ref (ad 12), .ref (ad 13), .int (nI (rdN wb)), .ref (ad 15)])) := hmb.1
                    have hnb : rdK wb = rdK wa := by rw [hzb]; exact itm_K (mIn_K i 1) jb wa
                    have hbb : rdK wa 1 ≤ 1024 := hma.kb (by decide)
                    have hIb : mInv wb := by rw [hzb]; exact itm_I (fun j w hj h => mIn_I h hi (by decide) (by omega)) hIa
                    have hNb0 : rdN wb ≤ rdN wa + jb := by rw [hzb]; exact (itm_N (mIn_N i 1) jb wa).2
                    have hNb : rdN wb ≤ rdN w + 2048 := by omega
                    have hKbb : rdK wb 1 ≤ 1024 := by rw [hnb]; exact hbb
                    refine lv_iload hx hb dX7_flush_75 (lv_at hl 0 rfl) ?_
                    refine lv_aload_n hx hb dX7_flush_77 rfl (lv_at hl 1 rfl) ?_
                    refine m_get X iX7 hK hw hxlb rfl 1 (by decide) (ref := "ObjectMapperModel") (by decide +kernel) (Or.inl rfl) rfl dX7_flush_78 ?_
                    refine lv_iload hx hb dX7_flush_81 (lv_at hl 3 rfl) ?_
                    have ix21 : (1 : Int32) = nI 1 := rfl
                    have ix21b : 1 < 2 := (by decide)
                    refine m_iald X hK hw (hmb.a1) (i := 1) (by rw [ix21]; exact vp_in_nI ix21b (by decide)) dX7_flush_83 ?_
                    rw [show (1 : Int32).toNatClampNeg = 1 from by rw [ix21]; exact nI_clamp (by omega)]
                    rw [show nI (rdK wb 1) = nI (rdK wa 1) from by rw [hnb]]
                    refine lv_icmp_ge (tgt := 114) hx hb dX7_flush_84 (by decide) (fun c_84 => ?_) (fun c_84 => ?_)
                    · have hknb : rdK wa 1 ≤ jb := (nI_leI (by omega) (by omega)).mp c_84
                      have hjjb : jb = rdK wa 1 := by omega
                      rw [hjjb] at hzb
                      refine lv_iinc (v := 2) (lv' := [(5, .int 2), (6, .int (nI jb)), (0, .ref x), (1, .int si), (4, .int (nI (rdN w)))]) hx hb dX7_flush_114 hl (k := 3) rfl (by decide) (by decide) rfl (fun ls hl => ?_)
                      refine lv_goto (tgt := 66) hx hb dX7_flush_117 (by decide) ?_
                      refine lv_iload hx hb dX7_flush_66 (lv_at hl 0 rfl) ?_
                      refine lv_iconst (v := 1) hx hb dX7_flush_68 (by decide) ?_
                      refine lv_icmp_gt (tgt := 120) hx hb dX7_flush_69 (by decide) (fun _ => ?_) (fun c_69 => absurd (by decide) c_69)
                      refine lv_iconst (v := 0) hx hb dX7_flush_120 (by decide) ?_
                      refine lv_istore (lv' := [(5, .int 0), (6, .int (nI jb)), (0, .ref x), (1, .int si), (4, .int (nI (rdN w)))]) hx hb dX7_flush_121 hl (by decide) rfl (fun ls hl => ?_)
                      refine lv_iload hx hb dX7_flush_123 (lv_at hl 0 rfl) ?_
                      refine lv_iconst (v := 1) hx hb dX7_flush_125 (by decide) ?_
                      refine lv_icmp_gt (tgt := 177) hx hb dX7_flush_126 (by decide) (fun c_126 => absurd c_126 (by decide)) (fun _ => ?_)
                      refine lv_iconst (v := 0) hx hb dX7_flush_129 (by decide) ?_
                      refine lv_istore (lv' := [(6, .int (nI 0)), (5, .int 0), (0, .ref x), (1, .int si), (4, .int (nI (rdN w)))]) hx hb dX7_flush_130 hl (by decide) rfl (fun ls hl => ?_)
                      have loopc : ∀ (d : Nat) (jc : Nat) (wc : mW) (Mc : gM) (H : Heap) (locs : List Loc) (ls : Array Slot), jc ≤ rdK wb 0 → rdK wb 0 + 1 ≤ jc + d → wc = itm (mUp i 0) jc wb → MW G Mc x ad wc → mFr x ad M Mc → wd G A Mc H → va_S A s.heap H locs → lv_has ls 7 [(6, .int (nI jc)), (0, .ref x), (1, .int si), (5, .int 0), (4, .int (nI (rdN w)))] → W p l e ({ frames := 4, cells := 0, slots := 0, locals := 95 }) s m [.ref x, .int si].toArray below meth c H locs (0) (0) (MQ below (QI G (fun r M' => mFr x ad M M' ∧ (((aFl w si) = 0 ∧ ∃ i, aS si i ∧ r = nI (rdN (mFl i (mH (mWbs i w) 0)) - rdN w) ∧ MW G M' x ad (mFl i (mH (mWbs i w) 0))) ∨ ((aFl w si) ≠ 0 ∧ ∃ w1, (mLk w w1 ∧ rdH w1 = aFl w si) ∧ MW G M' x ad w1))) A) [.ref x, .int si].toArray s (0) (0) A) (F0 m 132 ls []) := by
                        intro d
                        induction d with
                        | zero => intro jc wc Mc H locs ls h1 h2; exact absurd h2 (by omega)
                        | succ d ih =>
                          intro jc wc Mc H locs ls hjc1 hjc2 hzc hmc hfc hw hS hl
                          have hxlc : Mc x = some (.inr (8, [.int (rdH wc), .ref (ad 1), .ref (ad 2), .ref (ad 3), .ref (ad 4), .ref (ad 5), .ref (ad 6), .ref (ad 7), .ref (ad 8), .ref (ad 9), .ref (ad 10), .ref (ad 11), .ref (ad 12), .ref (ad 13), .int (nI (rdN wc)), .ref (ad 15)])) := hmc.1
                          have hnc : rdK wc = rdK wb := by rw [hzc]; exact itm_K (mUp_K i 0) jc wb
                          have hbc : rdK wb 0 ≤ 1024 := hmb.kb (by decide)
                          have hIc : mInv wc := by rw [hzc]; exact itm_I (fun j w hj h => mUp_I h hi (by decide) (by omega)) hIb
                          have hNc0 : rdN wc ≤ rdN wb + jc := by rw [hzc]; exact (itm_N (mUp_N i 0) jc wb).2
                          have hNc : rdN wc ≤ rdN w + 3072 := by omega
                          refine lv_iload hx hb dX7_flush_132 (lv_at hl 0 rfl) ?_
                          refine lv_aload_n hx hb dX7_flush_134 rfl (lv_at hl 1 rfl) ?_
                          refine m_get X iX7 hK hw hxlc rfl 1 (by decide) (ref := "ObjectMapperModel") (by decide +kernel) (Or.inl rfl) rfl dX7_flush_135 ?_
                          refine lv_iload hx hb dX7_flush_138 (lv_at hl 3 rfl) ?_
                          have ix22 : (0 : Int32) = nI 0 := rfl
                          have ix22b : 0 < 2 := (by decide)
                          refine m_iald X hK hw (hmc.a1) (i := 0) (by rw [ix22]; exact vp_in_nI ix22b (by decide)) dX7_flush_140 ?_
                          rw [show (0 : Int32).toNatClampNeg = 0 from by rw [ix22]; exact nI_clamp (by omega)]
                          rw [show nI (rdK wc 0) = nI (rdK wb 0) from by rw [hnc]]
                          refine lv_icmp_ge (tgt := 171) hx hb dX7_flush_141 (by decide) (fun c_141 => ?_) (fun c_141 => ?_)
                          · have hknc : rdK wb 0 ≤ jc := (nI_leI (by omega) (by omega)).mp c_141
                            have hjjc : jc = rdK wb 0 := by omega
                            rw [hjjc] at hzc
                            refine lv_iinc (v := 1) (lv' := [(5, .int 1), (6, .int (nI jc)), (0, .ref x), (1, .int si), (4, .int (nI (rdN w)))]) hx hb dX7_flush_171 hl (k := 3) rfl (by decide) (by decide) rfl (fun ls hl => ?_)
                            refine lv_goto (tgt := 123) hx hb dX7_flush_174 (by decide) ?_
                            refine lv_iload hx hb dX7_flush_123 (lv_at hl 0 rfl) ?_
                            refine lv_iconst (v := 1) hx hb dX7_flush_125 (by decide) ?_
                            refine lv_icmp_gt (tgt := 177) hx hb dX7_flush_126 (by decide) (fun c_126 => absurd c_126 (by decide)) (fun _ => ?_)
                            refine lv_iconst (v := 0) hx hb dX7_flush_129 (by decide) ?_
                            refine lv_istore (lv' := [(6, .int (nI 0)), (5, .int 1), (0, .ref x), (1, .int si), (4, .int (nI (rdN w)))]) hx hb dX7_flush_130 hl (by decide) rfl (fun ls hl => ?_)
                            have loopg : ∀ (d : Nat) (jg : Nat) (wg : mW) (Mg : gM) (H : Heap) (locs : List Loc) (ls : Array Slot), jg ≤ rdK wc 1 → rdK wc 1 + 1 ≤ jg + d → wg = itm (mUp i 1) jg wc → MW G Mg x ad wg → mFr x ad M Mg → wd G A Mg H → va_S A s.heap H locs → lv_has ls 7 [(6, .int (nI jg)), (0, .ref x), (1, .int si), (5, .int 1), (4, .int (nI (rdN w)))] → W p l e ({ frames := 4, cells := 0, slots := 0, locals := 95 }) s m [.ref x, .int si].toArray below meth c H locs (0) (0) (MQ below (QI G (fun r M' => mFr x ad M M' ∧ (((aFl w si) = 0 ∧ ∃ i, aS si i ∧ r = nI (rdN (mFl i (mH (mWbs i w) 0)) - rdN w) ∧ MW G M' x ad (mFl i (mH (mWbs i w) 0))) ∨ ((aFl w si) ≠ 0 ∧ ∃ w1, (mLk w w1 ∧ rdH w1 = aFl w si) ∧ MW G M' x ad w1))) A) [.ref x, .int si].toArray s (0) (0) A) (F0 m 132 ls []) := by
                              intro d
                              induction d with
                              | zero => intro jg wg Mg H locs ls h1 h2; exact absurd h2 (by omega)
                              | succ d ih =>
                                intro jg wg Mg H locs ls hjg1 hjg2 hzg hmg hfg hw hS hl
                                have hxlg : Mg x = some (.inr (8, [.int (rdH wg), .ref (ad 1), .ref (ad 2), .ref (ad 3), .ref (ad 4), .ref (ad 5), .ref (ad 6), .ref (ad 7), .ref (ad 8), .ref (ad 9), .ref (ad 10), .ref (ad 11), .ref (ad 12), .ref (ad 13), .int (nI (rdN wg)), .ref (ad 15)])) := hmg.1
                                have hng : rdK wg = rdK wc := by rw [hzg]; exact itm_K (mUp_K i 1) jg wc
                                have hbg : rdK wc 1 ≤ 1024 := hmc.kb (by decide)
                                have hIg : mInv wg := by rw [hzg]; exact itm_I (fun j w hj h => mUp_I h hi (by decide) (by omega)) hIc
                                have hNg0 : rdN wg ≤ rdN wc + jg := by rw [hzg]; exact (itm_N (mUp_N i 1) jg wc).2
                                have hNg : rdN wg ≤ rdN w + 4096 := by omega
                                refine lv_iload hx hb dX7_flush_132 (lv_at hl 0 rfl) ?_
                                refine lv_aload_n hx hb dX7_flush_134 rfl (lv_at hl 1 rfl) ?_
                                refine m_get X iX7 hK hw hxlg rfl 1 (by decide) (ref := "ObjectMapperModel") (by decide +kernel) (Or.inl rfl) rfl dX7_flush_135 ?_
                                refine lv_iload hx hb dX7_flush_138 (lv_at hl 3 rfl) ?_
                                have ix23 : (1 : Int32) = nI 1 := rfl
                                have ix23b : 1 < 2 := (by decide)
                                refine m_iald X hK hw (hmg.a1) (i := 1) (by rw [ix23]; exact vp_in_nI ix23b (by decide)) dX7_flush_140 ?_
                                rw [show (1 : Int32).toNatClampNeg = 1 from by rw [ix23]; exact nI_clamp (by omega)]
                                rw [show nI (rdK wg 1) = nI (rdK wc 1) from by rw [hng]]
                                refine lv_icmp_ge (tgt := 171) hx hb dX7_flush_141 (by decide) (fun c_141 => ?_) (fun c_141 => ?_)
                                · have hkng : rdK wc 1 ≤ jg := (nI_leI (by omega) (by omega)).mp c_141
                                  have hjjg : jg = rdK wc 1 := by omega
                                  rw [hjjg] at hzg
                                  refine lv_iinc (v := 2) (lv' := [(5, .int 2), (6, .int (nI jg)), (0, .ref x), (1, .int si), (4, .int (nI (rdN w)))]) hx hb dX7_flush_171 hl (k := 3) rfl (by decide) (by decide) rfl (fun ls hl => ?_)
                                  refine lv_goto (tgt := 123) hx hb dX7_flush_174 (by decide) ?_
                                  refine lv_iload hx hb dX7_flush_123 (lv_at hl 0 rfl) ?_
                                  refine lv_iconst (v := 1) hx hb dX7_flush_125 (by decide) ?_
                                  refine lv_icmp_gt (tgt := 177) hx hb dX7_flush_126 (by decide) (fun _ => ?_) (fun c_126 => absurd (by decide) c_126)
                                  refine lv_iconst (v := 1) hx hb dX7_flush_177 (by decide) ?_
                                  refine lv_istore (lv' := [(5, .int 1), (6, .int (nI jg)), (0, .ref x), (1, .int si), (4, .int (nI (rdN w)))]) hx hb dX7_flush_178 hl (by decide) rfl (fun ls hl => ?_)
                                  refine lv_iload hx hb dX7_flush_180 (lv_at hl 0 rfl) ?_
                                  refine lv_if_lt (tgt := 274) hx hb dX7_flush_182 (by decide) (fun c_182 => absurd c_182 (by decide)) (fun _ => ?_)
                                  refine lv_iconst (v := 0) hx hb dX7_flush_185 (by decide) ?_
                                  refine lv_istore (lv' := [(6, .int (nI 0)), (5, .int 1), (0, .ref x), (1, .int si), (4, .int (nI (rdN w)))]) hx hb dX7_flush_186 hl (by decide) rfl (fun ls hl => ?_)
                                  have loope : ∀ (d : Nat) (je : Nat) (we : mW) (Me : gM) (H : Heap) (locs : List Loc) (ls : Array Slot), je ≤ rdK wg 1 → rdK wg 1 + 1 ≤ je + d → we = itm (mDe i 1) je wg → MW G Me x ad we → mFr x ad M Me → wd G A Me H → va_S A s.heap H locs → lv_has ls 7 [(6, .int (nI je)), (0, .ref x), (1, .int si), (5, .int 1), (4, .int (nI (rdN w)))] → W p l e ({ frames := 4, cells := 0, slots := 0, locals := 95 }) s m [.ref x, .int si].toArray below meth c H locs (0) (0) (MQ below (QI G (fun r M' => mFr x ad M M' ∧ (((aFl w si) = 0 ∧ ∃ i, aS si i ∧ r = nI (rdN (mFl i (mH (mWbs i w) 0)) - rdN w) ∧ MW G M' x ad (mFl i (mH (mWbs i w) 0))) ∨ ((aFl w si) ≠ 0 ∧ ∃ w1, (mLk w w1 ∧ rdH w1 = aFl w si) ∧ MW G M' x ad w1))) A) [.ref x, .int si].toArray s (0) (0) A) (F0 m 188 ls []) := by
                                    intro d
                                    induction d with
                                    | zero => intro je we Me H locs ls h1 h2; exact absurd h2 (by omega)
                                    | succ d ih =>
                                      intro je we Me H locs ls hje1 hje2 hze hme hfe hw hS hl
                                      have hxle : Me x = some (.inr (8, [.int (rdH we), .ref (ad 1), .ref (ad 2), .ref (ad 3), .ref (ad 4), .ref (ad 5), .ref (ad 6), .ref (ad 7), .ref (ad 8), .ref (ad 9), .ref (ad 10), .ref (ad 11), .ref (ad 12), .ref (ad 13), .int (nI (rdN we)), .ref (ad 15)])) := hme.1
                                      have hne : rdK we = rdK wg := by rw [hze]; exact itm_K (mDe_K i 1) je wg
                                      have hbe : rdK wg 1 ≤ 1024 := hmg.kb (by decide)
                                      have hIe : mInv we := by rw [hze]; exact itm_I (fun j w hj h => mDe_I h hi (by decide) (by omega)) hIg
                                      have hNe0 : rdN we ≤ rdN wg + je := by rw [hze]; exact (itm_N (mDe_N i 1) je wg).2
                                      have hNe : rdN we ≤ rdN w + 5120 := by omega
                                      refine lv_iload hx hb dX7_flush_188 (lv_at hl 0 rfl) ?_
                                      refine lv_aload_n hx hb dX7_flush_190 rfl (lv_at hl 1 rfl) ?_
                                      refine m_get X iX7 hK hw hxle rfl 1 (by decide) (ref := "ObjectMapperModel") (by decide +kernel) (Or.inl rfl) rfl dX7_flush_191 ?_
                                      refine lv_iload hx hb dX7_flush_194 (lv_at hl 3 rfl) ?_
                                      have ix24 : (1 : Int32) = nI 1 := rfl
                                      have ix24b : 1 < 2 := (by decide)
                                      refine m_iald X hK hw (hme.a1) (i := 1) (by rw [ix24]; exact vp_in_nI ix24b (by decide)) dX7_flush_196 ?_
                                      rw [show (1 : Int32).toNatClampNeg = 1 from by rw [ix24]; exact nI_clamp (by omega)]
                                      rw [show nI (rdK we 1) = nI (rdK wg 1) from by rw [hne]]
                                      refine lv_icmp_ge (tgt := 268) hx hb dX7_flush_197 (by decide) (fun c_197 => ?_) (fun c_197 => ?_)
                                      · have hkne : rdK wg 1 ≤ je := (nI_leI (by omega) (by omega)).mp c_197
                                        have hjje : je = rdK wg 1 := by omega
                                        rw [hjje] at hze
                                        refine lv_iinc (v := 0) (lv' := [(5, .int 0), (6, .int (nI je)), (0, .ref x), (1, .int si), (4, .int (nI (rdN w)))]) hx hb dX7_flush_268 hl (k := 3) rfl (by decide) (by decide) rfl (fun ls hl => ?_)
                                        refine lv_goto (tgt := 180) hx hb dX7_flush_271 (by decide) ?_
                                        refine lv_iload hx hb dX7_flush_180 (lv_at hl 0 rfl) ?_
                                        refine lv_if_lt (tgt := 274) hx hb dX7_flush_182 (by decide) (fun c_182 => absurd c_182 (by decide)) (fun _ => ?_)
                                        refine lv_iconst (v := 0) hx hb dX7_flush_185 (by decide) ?_
                                        refine lv_istore (lv' := [(6, .int (nI 0)), (5, .int 0), (0, .ref x), (1, .int si), (4, .int (nI (rdN w)))]) hx hb dX7_flush_186 hl (by decide) rfl (fun ls hl => ?_)
                                        have loopf : ∀ (d : Nat) (jf : Nat) (wf : mW) (Mf : gM) (H : Heap) (locs : List Loc) (ls : Array Slot), jf ≤ rdK we 0 → rdK we 0 + 1 ≤ jf + d → wf = itm (mDe i 0) jf we → MW G Mf x ad wf → mFr x ad M Mf → wd G A Mf H → va_S A s.heap H locs → lv_has ls 7 [(6, .int (nI jf)), (0, .ref x), (1, .int si), (5, .int 0), (4, .int (nI (rdN w)))] → W p l e ({ frames := 4, cells := 0, slots := 0, locals := 95 }) s m [.ref x, .int si].toArray below meth c H locs (0) (0) (MQ below (QI G (fun r M' => mFr x ad M M' ∧ (((aFl w si) = 0 ∧ ∃ i, aS si i ∧ r = nI (rdN (mFl i (mH (mWbs i w) 0)) - rdN w) ∧ MW G M' x ad (mFl i (mH (mWbs i w) 0))) ∨ ((aFl w si) ≠ 0 ∧ ∃ w1, (mLk w w1 ∧ rdH w1 = aFl w si) ∧ MW G M' x ad w1))) A) [.ref x, .int si].toArray s (0) (0) A) (F0 m 188 ls []) := by
                                          intro d
                                          induction d with
                                          | zero => intro jf wf Mf H locs ls h1 h2; exact absurd h2 (by omega)
                                          | succ d ih =>
                                            intro jf wf Mf H locs ls hjf1 hjf2 hzf hmf hff hw hS hl
                                            have hxlf : Mf x = some (.inr (8, [.int (rdH wf), .ref (ad 1), .ref (ad 2), .ref (ad 3), .ref (ad 4), .ref (ad 5), .ref (ad 6), .ref (ad 7), .ref (ad 8), .ref (ad 9), .ref (ad 10), .ref (ad 11), .ref (ad 12), .ref (ad 13), .int (nI (rdN wf)), .ref (ad 15)])) := hmf.1
                                            have hnf : rdK wf = rdK we := by rw [hzf]; exact itm_K (mDe_K i 0) jf we
                                            have hbf : rdK we 0 ≤ 1024 := hme.kb (by decide)
                                            have hIf : mInv wf := by rw [hzf]; exact itm_I (fun j w hj h => mDe_I h hi (by decide) (by omega)) hIe
                                            have hNf0 : rdN wf ≤ rdN we + jf := by rw [hzf]; exact (itm_N (mDe_N i 0) jf we).2
                                            have hNf : rdN wf ≤ rdN w + 6144 := by omega
                                            refine lv_iload hx hb dX7_flush_188 (lv_at hl 0 rfl) ?_
                                            refine lv_aload_n hx hb dX7_flush_190 rfl (lv_at hl 1 rfl) ?_
                                            refine m_get X iX7 hK hw hxlf rfl 1 (by decide) (ref := "ObjectMapperModel") (by decide +kernel) (Or.inl rfl) rfl dX7_flush_191 ?_
                                            refine lv_iload hx hb dX7_flush_194 (lv_at hl 3 rfl) ?_
                                            have ix25 : (0 : Int32) = nI 0 := rfl
                                            have ix25b : 0 < 2 := (by decide)
                                            refine m_iald X hK hw (hmf.a1) (i := 0) (by rw [ix25]; exact vp_in_nI ix25b (by decide)) dX7_flush_196 ?_
                                            rw [show (0 : Int32).toNatClampNeg = 0 from by rw [ix25]; exact nI_clamp (by omega)]
                                            rw [show nI (rdK wf 0) = nI (rdK we 0) from by rw [hnf]]
                                            refine lv_icmp_ge (tgt := 268) hx hb dX7_flush_197 (by decide) (fun c_197 => ?_) (fun c_197 => ?_)
                                            · have hknf : rdK we 0 ≤ jf := (nI_leI (by omega) (by omega)).mp c_197
                                              have hjjf : jf = rdK we 0 := by omega
                                              rw [hjjf] at hzf
                                              refine lv_iinc (v := (-1)) (lv' := [(5, .int (-1)), (6, .int (nI jf)), (0, .ref x), (1, .int si), (4, .int (nI (rdN w)))]) hx hb dX7_flush_268 hl (k := 3) rfl (by decide) (by decide) rfl (fun ls hl => ?_)
                                              refine lv_goto (tgt := 180) hx hb dX7_flush_271 (by decide) ?_
                                              refine lv_iload hx hb dX7_flush_180 (lv_at hl 0 rfl) ?_
                                              refine lv_if_lt (tgt := 274) hx hb dX7_flush_182 (by decide) (fun _ => ?_) (fun c_182 => absurd (by decide) c_182)
                                              refine lv_aload_n hx hb dX7_flush_274 rfl (lv_at hl 2 rfl) ?_
                                              refine m_get X iX7 hK hw hxlf rfl 14 (by decide) (ref := "ObjectMapperModel") (by decide +kernel) (Or.inl rfl) rfl dX7_flush_275 ?_
                                              refine lv_iload hx hb dX7_flush_278 (lv_at hl 4 rfl) ?_
                                              refine lv_isub hx hb dX7_flush_280 ?_
                                              have hK9 : rdK (mH (mWbs i w) 0) = rdK w := (mWbs_L (i := i) (w := w)).1
                                              have hfin : mFl i (mH (mWbs i w) 0) = wf := by
                                                have q1 : rdK wa = rdK w := hna.trans hK9
                                                have q2 : rdK wb = rdK w := hnb.trans q1
                                                have q3 : rdK wc = rdK w := hnc.trans q2
                                                have q4 : rdK wg = rdK w := hng.trans q3
                                                have q5 : rdK we = rdK w := hne.trans q4
                                                have q6 : rdK wf = rdK w := hnf.trans q5
                                                rw [hzf, q5, hze, q4, hzg, q3, hzc, q2, hzb, q1, hza]
                                                unfold mFl
                                                rw [hK9]
                                              have hmf9 : MW G Mf x ad (mFl i (mH (mWbs i w) 0)) := by rw [hfin]; exact hmf
                                              rw [← hfin]
                                              have hNN := (mFl_N (i := i) hI0).1
                                              rw [nI_subN (by omega)]
                                              have hxff : Mf x = some (.inr (8, [.int (rdH (mFl i (mH (mWbs i w) 0))), .ref (ad 1), .ref (ad 2), .ref (ad 3), .ref (ad 4), .ref (ad 5), .ref (ad 6), .ref (ad 7), .ref (ad 8), .ref (ad 9), .ref (ad 10), .ref (ad 11), .ref (ad 12), .ref (ad 13), .int (nI (rdN (mFl i (mH (mWbs i w) 0)))), .ref (ad 15)])) := hmf9.1
                                              exact m_iret X hK hw hS ⟨hff, Or.inl ⟨hC, i, ⟨hi, ei⟩, rfl, hmf9⟩⟩ (by omega) (by omega) dX7_flush_281
                                            · have hklf : jf < rdK we 0 := Nat.lt_of_not_le (fun q => c_197 (nI_le q (by omega)))
                                              have hj9f : jf < 1024 := by omega
                                              have hkwf : jf < rdK wf 0 := by rw [hnf]; exact hklf
                                              refine lv_aload_n hx hb dX7_flush_200 rfl (lv_at hl 1 rfl) ?_
                                              refine lv_iload_n hx hb dX7_flush_201 rfl (lv_at hl 2 rfl) ?_
                                              refine lv_iload hx hb dX7_flush_202 (lv_at hl 3 rfl) ?_
                                              refine lv_iload hx hb dX7_flush_204 (lv_at hl 0 rfl) ?_
                                              refine m_callVi X (ci := 8) rfl hxlf hK hw hZ hS hA (As := [.int si, .int 0, .int (nI jf)]) (rest := []) (c_isGoneK l G dce _ Mf x ad wf hmf i 0 jf hi (by decide) hj9f si ei 0 rfl) (cwV 3 hts gX7_flush_X7_isGone rfl rfl rfl (by decide +kernel) ⟨Nat.le_of_ble_eq_true rfl, Nat.le_of_ble_eq_true rfl⟩) rfl hl.1 rfl (Nat.le_of_ble_eq_true rfl) dX7_flush_206 (Nat.le_of_ble_eq_true rfl) (Nat.le_of_ble_eq_true rfl) (fun r27 M26 H locs hp hw hS hz hk => ?_)
                                              rw [hp.2] at hw
                                              rw [hp.1]
                                              refine lv_if_eq (tgt := 262) hx hb dX7_flush_209 (by decide) (fun c_209 => ?_) (fun c_209 => ?_)
                                              · refine lv_iinc (v := (nI (jf + 1))) (lv' := [(6, .int (nI (jf + 1))), (0, .ref x), (1, .int si), (5, .int 0), (4, .int (nI (rdN w)))]) hx hb dX7_flush_262 hl (k := 0) rfl (nI_1 _) (by decide) rfl (fun ls hl => ?_)
                                                refine lv_goto (tgt := 188) hx hb dX7_flush_265 (by decide) ?_
                                                have hzf2 : wf = itm (mDe i 0) (jf + 1) we := by
                                                  show _ = (mDe i 0) jf (itm (mDe i 0) jf we)
                                                  rw [← hzf]
                                                  unfold mDe
                                                  rw [if_neg (by rw [((bI_0 _).mp c_209)]; decide)]
                                                exact ih (jf + 1) wf Mf H locs ls (by omega) (by omega) hzf2 hmf hff hw hS (lv_sub hl [0, 1, 2, 3, 4] rfl)
                                              · refine lv_aload_n hx hb dX7_flush_212 rfl (lv_at hl 1 rfl) ?_
                                                refine m_get X iX7 hK hw hxlf rfl 2 (by decide) (ref := "ObjectMapperModel") (by decide +kernel) (Or.inl rfl) rfl dX7_flush_213 ?_
                                                refine lv_iload hx hb dX7_flush_216 (lv_at hl 3 rfl) ?_
                                                refine lv_iload hx hb dX7_flush_218 (lv_at hl 0 rfl) ?_
                                                refine m_callSi X hK hw hZ hS hA (As := [.int 0, .int (nI jf)]) (rest := [.ref (ad 2)]) (c_rowK l G dce _ Mf 0 jf 0 rfl (nI jf) rfl) (va_cwS 2 hts gX7_flush_X7_row rfl rfl rfl (by decide +kernel) ⟨Nat.le_of_ble_eq_true rfl, Nat.le_of_ble_eq_true rfl⟩) rfl hl.1 rfl (Nat.le_of_ble_eq_true rfl) dX7_flush_220 (Nat.le_of_ble_eq_true rfl) (Nat.le_of_ble_eq_true rfl) (fun r29 M28 H locs hp hw hS hz hk => ?_)
                                                rw [hp.2] at hw
                                                rw [hp.1]
                                                refine lv_iconst (v := 0) hx hb dX7_flush_223 (by decide) ?_
                                                have ix31 : ((nI (rP 0 jf)) : Int32) = nI (rP 0 jf) := rfl
                                                have ix31b : (rP 0 jf) < 2048 := (rP_lt (by decide) hj9f)
                                                refine m_zast X hK hw hS (hmf.a2) (i := (nI (rP 0 jf))) (x := 0) (by decide) (by rw [ix31]; exact vp_in_nI ix31b (by decide)) dX7_flush_224 (fun M30 H locs eM30 hw hS => ?_)
                                                rw [show ((nI (rP 0 jf)) : Int32).toNatClampNeg = (rP 0 jf) from by rw [ix31]; exact nI_clamp (by omega)] at eM30
                                                obtain ⟨wt32, ewt32⟩ : ∃ w9, w9 = mS wf 2 (rP 0 jf) 0 := ⟨_, rfl⟩
                                                have hmt32 : MW G M30 x ad wt32 := by rw [ewt32]; exact hmf.set2 eM30
                                                have frt32 := mFr.tr hff (mFr.wr (x := x) (ad := ad) (a := 2) (by decide) eM30)
                                                have hxt32 : M30 x = some (.inr (8, [.int (rdH wt32), .ref (ad 1), .ref (ad 2), .ref (ad 3), .ref (ad 4), .ref (ad 5), .ref (ad 6), .ref (ad 7), .ref (ad 8), .ref (ad 9), .ref (ad 10), .ref (ad 11), .ref (ad 12), .ref (ad 13), .int (nI (rdN wt32)), .ref (ad 15)])) := hmt32.1
                                                refine lv_aload_n hx hb dX7_flush_225 rfl (lv_at hl 1 rfl) ?_
                                                refine m_get X iX7 hK hw hxt32 rfl 7 (by decide) (ref := "ObjectMapperModel") (by decide +kernel) (Or.inl rfl) rfl dX7_flush_226 ?_
                                                refine lv_iload_n hx hb dX7_flush_229 rfl (lv_at hl 2 rfl) ?_
                                                refine lv_iload hx hb dX7_flush_230 (lv_at hl 3 rfl) ?_
                                                refine lv_iload hx hb dX7_flush_232 (lv_at hl 0 rfl) ?_
                                                refine m_callSi X hK hw hZ hS hA (As := [.int si, .int 0, .int (nI jf)]) (rest := [.ref (ad 7)]) (c_atK l G dce _ M30 i 0 jf si ei 0 rfl (nI jf) rfl) (va_cwS 3 hts gX7_flush_X7_at rfl rfl rfl (by decide +kernel) ⟨Nat.le_of_ble_eq_true rfl, Nat.le_of_ble_eq_true rfl⟩) rfl hl.1 rfl (Nat.le_of_ble_eq_true rfl) dX7_flush_234 (Nat.le_of_ble_eq_true rfl) (Nat.le_of_ble_eq_true rfl) (fun r34 M33 H locs hp hw hS hz hk => ?_)
                                                rw [hp.2] at hw
                                                rw [hp.1]
                                                refine lv_iconst (v := 0) hx hb dX7_flush_237 (by decide) ?_
                                                have ix36 : ((nI (aP i 0 jf)) : Int32) = nI (aP i 0 jf) := rfl
                                                have ix36b : (aP i 0 jf) < 6144 := (aP_lt hi (by decide) hj9f)
                                                refine m_iast X hK hw hS (hmt32.a7) (i := (nI (aP i 0 jf))) (x := 0) (by rw [ix36]; exact vp_in_nI ix36b (by decide)) dX7_flush_238 (fun M35 H locs eM35 hw hS => ?_)
                                                rw [show ((nI (aP i 0 jf)) : Int32).toNatClampNeg = (aP i 0 jf) from by rw [ix36]; exact nI_clamp (by omega)] at eM35
                                                obtain ⟨wt37, ewt37⟩ : ∃ w9, w9 = mS wt32 7 (aP i 0 jf) 0 := ⟨_, rfl⟩
                                                have hmt37 : MW G M35 x ad wt37 := by rw [ewt37]; exact hmt32.set7 eM35
                                                have frt37 := mFr.tr frt32 (mFr.wr (x := x) (ad := ad) (a := 7) (by decide) eM35)
                                                have hxt37 : M35 x = some (.inr (8, [.int (rdH wt37), .ref (ad 1), .ref (ad 2), .ref (ad 3), .ref (ad 4), .ref (ad 5), .ref (ad 6), .ref (ad 7), .ref (ad 8), .ref (ad 9), .ref (ad 10), .ref (ad 11), .ref (ad 12), .ref (ad 13), .int (nI (rdN wt37)), .ref (ad 15)])) := hmt37.1
                                                refine lv_aload_n hx hb dX7_flush_239 rfl (lv_at hl 1 rfl) ?_
                                                refine m_get X iX7 hK hw hxt37 rfl 8 (by decide) (ref := "ObjectMapperModel") (by decide +kernel) (Or.inl rfl) rfl dX7_flush_240 ?_
                                                refine lv_iload_n hx hb dX7_flush_243 rfl (lv_at hl 2 rfl) ?_
                                                refine lv_iload hx hb dX7_flush_244 (lv_at hl 3 rfl) ?_
                                                refine lv_iload hx hb dX7_flush_246 (lv_at hl 0 rfl) ?_
                                                refine m_callSi X hK hw hZ hS hA (As := [.int si, .int 0, .int (nI jf)]) (rest := [.ref (ad 8)]) (c_atK l G dce _ M35 i 0 jf si ei 0 rfl (nI jf) rfl) (va_cwS 3 hts gX7_flush_X7_at rfl rfl rfl (by decide +kernel) ⟨Nat.le_of_ble_eq_true rfl, Nat.le_of_ble_eq_true rfl⟩) rfl hl.1 rfl (Nat.le_of_ble_eq_true rfl) dX7_flush_248 (Nat.le_of_ble_eq_true rfl) (Nat.le_of_ble_eq_true rfl) (fun r39 M38 H locs hp hw hS hz hk => ?_)
                                                rw [hp.2] at hw
                                                rw [hp.1]
                                                refine lv_iconst (v := 0) hx hb dX7_flush_251 (by decide) ?_
                                                have ix41 : ((nI (aP i 0 jf)) : Int32) = nI (aP i 0 jf) := rfl
                                                have ix41b : (aP i 0 jf) < 6144 := (aP_lt hi (by decide) hj9f)
                                                refine m_zast X hK hw hS (hmt37.a8) (i := (nI (aP i 0 jf))) (x := 0) (by decide) (by rw [ix41]; exact vp_in_nI ix41b (by decide)) dX7_flush_252 (fun M40 H locs eM40 hw hS => ?_)
                                                rw [show ((nI (aP i 0 jf)) : Int32).toNatClampNeg = (aP i 0 jf) from by rw [ix41]; exact nI_clamp (by omega)] at eM40
                                                obtain ⟨wt42, ewt42⟩ : ∃ w9, w9 = mS wt37 8 (aP i 0 jf) 0 := ⟨_, rfl⟩
                                                have hmt42 : MW G M40 x ad wt42 := by rw [ewt42]; exact hmt37.set8 eM40
                                                have frt42 := mFr.tr frt37 (mFr.wr (x := x) (ad := ad) (a := 8) (by decide) eM40)
                                                have hxt42 : M40 x = some (.inr (8, [.int (rdH wt42), .ref (ad 1), .ref (ad 2), .ref (ad 3), .ref (ad 4), .ref (ad 5), .ref (ad 6), .ref (ad 7), .ref (ad 8), .ref (ad 9), .ref (ad 10), .ref (ad 11), .ref (ad 12), .ref (ad 13), .int (nI (rdN wt42)), .ref (ad 15)])) := hmt42.1
                                                refine lv_aload_n hx hb dX7_flush_253 rfl (lv_at hl 1 rfl) ?_
                                                refine lv_iconst (v := 2) hx hb dX7_flush_254 (by decide) ?_
                                                refine lv_iload hx hb dX7_flush_255 (lv_at hl 3 rfl) ?_
                                                refine lv_iload hx hb dX7_flush_257 (lv_at hl 0 rfl) ?_
                                                have hdl : mNo 2 0 jf wt42 = mDel i 0 jf wf := by rw [ewt42, ewt37, ewt32]; rfl
                                                have hNn : rdN wt42 = rdN wf := by rw [ewt42, ewt37, ewt32]; rfl
                                                refine m_callVv X (ci := 8) rfl hxt42 hK hw hZ hS hA (As := [.int 2, .int 0, .int (nI jf)]) (rest := []) (c_notesK l G dce _ M40 x ad wt42 hmt42 2 0 jf (by rw [hNn]; omega) 2 rfl 0 rfl (nI jf) rfl) (cwV 3 hts gX7_flush_X7_notes rfl rfl rfl (by decide +kernel) ⟨Nat.le_of_ble_eq_true rfl, Nat.le_of_ble_eq_true rfl⟩) rfl hl.1 rfl (Nat.le_of_ble_eq_true rfl) dX7_flush_259 (Nat.le_of_ble_eq_true rfl) (Nat.le_of_ble_eq_true rfl) (fun M43 H locs hp hw hS hz hk => ?_)
                                                obtain ⟨hmt44, hft44⟩ := hp
                                                have frt44 := mFr.tr frt42 hft44
                                                have hxt44 : M43 x = some (.inr (8, [.int (rdH (mNo 2 0 jf wt42)), .ref (ad 1), .ref (ad 2), .ref (ad 3), .ref (ad 4), .ref (ad 5), .ref (ad 6), .ref (ad 7), .ref (ad 8), .ref (ad 9), .ref (ad 10), .ref (ad 11), .ref (ad 12), .ref (ad 13), .int (nI (rdN (mNo 2 0 jf wt42))), .ref (ad 15)])) := hmt44.1
                                                have hmd : MW G M43 x ad (mDel i 0 jf wf) := by rw [← hdl]; exact hmt44
                                                have hxdd : M43 x = some (.inr (8, [.int (rdH (mDel i 0 jf wf)), .ref (ad 1), .ref (ad 2), .ref (ad 3), .ref (ad 4), .ref (ad 5), .ref (ad 6), .ref (ad 7), .ref (ad 8), .ref (ad 9), .ref (ad 10), .ref (ad 11), .ref (ad 12), .ref (ad 13), .int (nI (rdN (mDel i 0 jf wf))), .ref (ad 15)])) := hmd.1
                                                refine lv_iinc (v := (nI (jf + 1))) (lv' := [(6, .int (nI (jf + 1))), (0, .ref x), (1, .int si), (5, .int 0), (4, .int (nI (rdN w)))]) hx hb dX7_flush_262 hl (k := 0) rfl (nI_1 _) (by decide) rfl (fun ls hl => ?_)
                                                refine lv_goto (tgt := 188) hx hb dX7_flush_265 (by decide) ?_
                                                have hzf2 : (mDel i 0 jf wf) = itm (mDe i 0) (jf + 1) we := by
                                                  show _ = (mDe i 0) jf (itm (mDe i 0) jf we)
                                                  rw [← hzf]
                                                  unfold mDe
                                                  rw [if_pos (by rw [(bI_t c_209)])]
                                                exact ih (jf + 1) (mDel i 0 jf wf) M43 H locs ls (by omega) (by omega) hzf2 hmd frt44 hw hS (lv_sub hl [0, 1, 2, 3, 4] rfl)
                                        exact loopf (rdK we 0 + 1) 0 we Me _ _ ls (Nat.zero_le _) (Nat.le_of_eq (Nat.zero_add _).symm) rfl hme hfe hw hS (lv_sub hl [0, 2, 3, 1, 4] rfl)
                                      · have hkle : je < rdK wg 1 := Nat.lt_of_not_le (fun q => c_197 (nI_le q (by omega)))
                                        have hj9e : je < 1024 := by omega
                                        have hkwe : je < rdK we 1 := by rw [hne]; exact hkle
                                        refine lv_aload_n hx hb dX7_flush_200 rfl (lv_at hl 1 rfl) ?_
                                        refine lv_iload_n hx hb dX7_flush_201 rfl (lv_at hl 2 rfl) ?_
                                        refine lv_iload hx hb dX7_flush_202 (lv_at hl 3 rfl) ?_
                                        refine lv_iload hx hb dX7_flush_204 (lv_at hl 0 rfl) ?_
                                        refine m_callVi X (ci := 8) rfl hxle hK hw hZ hS hA (As := [.int si, .int 1, .int (nI je)]) (rest := []) (c_isGoneK l G dce _ Me x ad we hme i 1 je hi (by decide) hj9e si ei 1 rfl) (cwV 3 hts gX7_flush_X7_isGone rfl rfl rfl (by decide +kernel) ⟨Nat.le_of_ble_eq_true rfl, Nat.le_of_ble_eq_true rfl⟩) rfl hl.1 rfl (Nat.le_of_ble_eq_true rfl) dX7_flush_206 (Nat.le_of_ble_eq_true rfl) (Nat.le_of_ble_eq_true rfl) (fun r46 M45 H locs hp hw hS hz hk => ?_)
                                        rw [hp.2] at hw
                                        rw [hp.1]
                                        refine lv_if_eq (tgt := 262) hx hb dX7_flush_209 (by decide) (fun c_209 => ?_) (fun c_209 => ?_)
                                        · refine lv_iinc (v := (nI (je + 1))) (lv' := [(6, .int (nI (je + 1))), (0, .ref x), (1, .int si), (5, .int 1), (4, .int (nI (rdN w)))]) hx hb dX7_flush_262 hl (k := 0) rfl (nI_1 _) (by decide) rfl (fun ls hl => ?_)
                                          refine lv_goto (tgt := 188) hx hb dX7_flush_265 (by decide) ?_
                                          have hze2 : we = itm (mDe i 1) (je + 1) wg := by
                                            show _ = (mDe i 1) je (itm (mDe i 1) je wg)
                                            rw [← hze]
                                            unfold mDe
                                            rw [if_neg (by rw [((bI_0 _).mp c_209)]; decide)]
                                          exact ih (je + 1) we Me H locs ls (by omega) (by omega) hze2 hme hfe hw hS (lv_sub hl [0, 1, 2, 3, 4] rfl)
                                        · refine lv_aload_n hx hb dX7_flush_212 rfl (lv_at hl 1 rfl) ?_
                                          refine m_get X iX7 hK hw hxle rfl 2 (by decide) (ref := "ObjectMapperModel") (by decide +kernel) (Or.inl rfl) rfl dX7_flush_213 ?_
                                          refine lv_iload hx hb dX7_flush_216 (lv_at hl 3 rfl) ?_
                                          refine lv_iload hx hb dX7_flush_218 (lv_at hl 0 rfl) ?_
                                          refine m_callSi X hK hw hZ hS hA (As := [.int 1, .int (nI je)]) (rest := [.ref (ad 2)]) (c_rowK l G dce _ Me 1 je 1 rfl (nI je) rfl) (va_cwS 2 hts gX7_flush_X7_row rfl rfl rfl (by decide +kernel) ⟨Nat.le_of_ble_eq_true rfl, Nat.le_of_ble_eq_true rfl⟩) rfl hl.1 rfl (Nat.le_of_ble_eq_true rfl) dX7_flush_220 (Nat.le_of_ble_eq_true rfl) (Nat.le_of_ble_eq_true rfl) (fun r48 M47 H locs hp hw hS hz hk => ?_)
                                          rw [hp.2] at hw
                                          rw [hp.1]
                                          refine lv_iconst (v := 0) hx hb dX7_flush_223 (by decide) ?_
                                          have ix50 : ((nI (rP 1 je)) : Int32) = nI (rP 1 je) := rfl
                                          have ix50b : (rP 1 je) < 2048 := (rP_lt (by decide) hj9e)
                                          refine m_zast X hK hw hS (hme.a2) (i := (nI (rP 1 je))) (x := 0) (by decide) (by rw [ix50]; exact vp_in_nI ix50b (by decide)) dX7_flush_224 (fun M49 H locs eM49 hw hS => ?_)
                                          rw [show ((nI (rP 1 je)) : Int32).toNatClampNeg = (rP 1 je) from by rw [ix50]; exact nI_clamp (by omega)] at eM49
                                          obtain ⟨wt51, ewt51⟩ : ∃ w9, w9 = mS we 2 (rP 1 je) 0 := ⟨_, rfl⟩
                                          have hmt51 : MW G M49 x ad wt51 := by rw [ewt51]; exact hme.set2 eM49
                                          have frt51 := mFr.tr hfe (mFr.wr (x := x) (ad := ad) (a := 2) (by decide) eM49)
                                          have hxt51 : M49 x = some (.inr (8, [.int (rdH wt51), .ref (ad 1), .ref (ad 2), .ref (ad 3), .ref (ad 4), .ref (ad 5), .ref (ad 6), .ref (ad 7), .ref (ad 8), .ref (ad 9), .ref (ad 10), .ref (ad 11), .ref (ad 12), .ref (ad 13), .int (nI (rdN wt51)), .ref (ad 15)])) := hmt51.1
                                          refine lv_aload_n hx hb dX7_flush_225 rfl (lv_at hl 1 rfl) ?_
                                          refine m_get X iX7 hK hw hxt51 rfl 7 (by decide) (ref := "ObjectMapperModel") (by decide +kernel) (Or.inl rfl) rfl dX7_flush_226 ?_
                                          refine lv_iload_n hx hb dX7_flush_229 rfl (lv_at hl 2 rfl) ?_
                                          refine lv_iload hx hb dX7_flush_230 (lv_at hl 3 rfl) ?_
                                          refine lv_iload hx hb dX7_flush_232 (lv_at hl 0 rfl) ?_
                                          refine m_callSi X hK hw hZ hS hA (As := [.int si, .int 1, .int (nI je)]) (rest := [.ref (ad 7)]) (c_atK l G dce _ M49 i 1 je si ei 1 rfl (nI je) rfl) (va_cwS 3 hts gX7_flush_X7_at rfl rfl rfl (by decide +kernel) ⟨Nat.le_of_ble_eq_true rfl, Nat.le_of_ble_eq_true rfl⟩) rfl hl.1 rfl (Nat.le_of_ble_eq_true rfl) dX7_flush_234 (Nat.le_of_ble_eq_true rfl) (Nat.le_of_ble_eq_true rfl) (fun r53 M52 H locs hp hw hS hz hk => ?_)
                                          rw [hp.2] at hw
                                          rw [hp.1]
                                          refine lv_iconst (v := 0) hx hb dX7_flush_237 (by decide) ?_
                                          have ix55 : ((nI (aP i 1 je)) : Int32) = nI (aP i 1 je) := rfl
                                          have ix55b : (aP i 1 je) < 6144 := (aP_lt hi (by decide) hj9e)
                                          refine m_iast X hK hw hS (hmt51.a7) (i := (nI (aP i 1 je))) (x := 0) (by rw [ix55]; exact vp_in_nI ix55b (by decide)) dX7_flush_238 (fun M54 H locs eM54 hw hS => ?_)
                                          rw [show ((nI (aP i 1 je)) : Int32).toNatClampNeg = (aP i 1 je) from by rw [ix55]; exact nI_clamp (by omega)] at eM54
                                          obtain ⟨wt56, ewt56⟩ : ∃ w9, w9 = mS wt51 7 (aP i 1 je) 0 := ⟨_, rfl⟩
                                          have hmt56 : MW G M54 x ad wt56 := by rw [ewt56]; exact hmt51.set7 eM54
                                          have frt56 := mFr.tr frt51 (mFr.wr (x := x) (ad := ad) (a := 7) (by decide) eM54)
                                          have hxt56 : M54 x = some (.inr (8, [.int (rdH wt56), .ref (ad 1), .ref (ad 2), .ref (ad 3), .ref (ad 4), .ref (ad 5), .ref (ad 6), .ref (ad 7), .ref (ad 8), .ref (ad 9), .ref (ad 10), .ref (ad 11), .ref (ad 12), .ref (ad 13), .int (nI (rdN wt56)), .ref (ad 15)])) := hmt56.1
                                          refine lv_aload_n hx hb dX7_flush_239 rfl (lv_at hl 1 rfl) ?_
                                          refine m_get X iX7 hK hw hxt56 rfl 8 (by decide) (ref := "ObjectMapperModel") (by decide +kernel) (Or.inl rfl) rfl dX7_flush_240 ?_
                                          refine lv_iload_n hx hb dX7_flush_243 rfl (lv_at hl 2 rfl) ?_
                                          refine lv_iload hx hb dX7_flush_244 (lv_at hl 3 rfl) ?_
                                          refine lv_iload hx hb dX7_flush_246 (lv_at hl 0 rfl) ?_
                                          refine m_callSi X hK hw hZ hS hA (As := [.int si, .int 1, .int (nI je)]) (rest := [.ref (ad 8)]) (c_atK l G dce _ M54 i 1 je si ei 1 rfl (nI je) rfl) (va_cwS 3 hts gX7_flush_X7_at rfl rfl rfl (by decide +kernel) ⟨Nat.le_of_ble_eq_true rfl, Nat.le_of_ble_eq_true rfl⟩) rfl hl.1 rfl (Nat.le_of_ble_eq_true rfl) dX7_flush_248 (Nat.le_of_ble_eq_true rfl) (Nat.le_of_ble_eq_true rfl) (fun r58 M57 H locs hp hw hS hz hk => ?_)
                                          rw [hp.2] at hw
                                          rw [hp.1]
                                          refine lv_iconst (v := 0) hx hb dX7_flush_251 (by decide) ?_
                                          have ix60 : ((nI (aP i 1 je)) : Int32) = nI (aP i 1 je) := rfl
                                          have ix60b : (aP i 1 je) < 6144 := (aP_lt hi (by decide) hj9e)
                                          refine m_zast X hK hw hS (hmt56.a8) (i := (nI (aP i 1 je))) (x := 0) (by decide) (by rw [ix60]; exact vp_in_nI ix60b (by decide)) dX7_flush_252 (fun M59 H locs eM59 hw hS => ?_)
                                          rw [show ((nI (aP i 1 je)) : Int32).toNatClampNeg = (aP i 1 je) from by rw [ix60]; exact nI_clamp (by omega)] at eM59
                                          obtain ⟨wt61, ewt61⟩ : ∃ w9, w9 = mS wt56 8 (aP i 1 je) 0 := ⟨_, rfl⟩
                                          have hmt61 : MW G M59 x ad wt61 := by rw [ewt61]; exact hmt56.set8 eM59
                                          have frt61 := mFr.tr frt56 (mFr.wr (x := x) (ad := ad) (a := 8) (by decide) eM59)
                                          have hxt61 : M59 x = some (.inr (8, [.int (rdH wt61), .ref (ad 1), .ref (ad 2), .ref (ad 3), .ref (ad 4), .ref (ad 5), .ref (ad 6), .ref (ad 7), .ref (ad 8), .ref (ad 9), .ref (ad 10), .ref (ad 11), .ref (ad 12), .ref (ad 13), .int (nI (rdN wt61)), .ref (ad 15)])) := hmt61.1
                                          refine lv_aload_n hx hb dX7_flush_253 rfl (lv_at hl 1 rfl) ?_
                                          refine lv_iconst (v := 2) hx hb dX7_flush_254 (by decide) ?_
                                          refine lv_iload hx hb dX7_flush_255 (lv_at hl 3 rfl) ?_
                                          refine lv_iload hx hb dX7_flush_257 (lv_at hl 0 rfl) ?_
                                          have hdl : mNo 2 1 je wt61 = mDel i 1 je we := by rw [ewt61, ewt56, ewt51]; rfl
                                          have hNn : rdN wt61 = rdN we := by rw [ewt61, ewt56, ewt51]; rfl
                                          refine m_callVv X (ci := 8) rfl hxt61 hK hw hZ hS hA (As := [.int 2, .int 1, .int (nI je)]) (rest := []) (c_notesK l G dce _ M59 x ad wt61 hmt61 2 1 je (by rw [hNn]; omega) 2 rfl 1 rfl (nI je) rfl) (cwV 3 hts gX7_flush_X7_notes rfl rfl rfl (by decide +kernel) ⟨Nat.le_of_ble_eq_true rfl, Nat.le_of_ble_eq_true rfl⟩) rfl hl.1 rfl (Nat.le_of_ble_eq_true rfl) dX7_flush_259 (Nat.le_of_ble_eq_true rfl) (Nat.le_of_ble_eq_true rfl) (fun M62 H locs hp hw hS hz hk => ?_)
                                          obtain ⟨hmt63, hft63⟩ := hp
                                          have frt63 := mFr.tr frt61 hft63
                                          have hxt63 : M62 x = some (.inr (8, [.int (rdH (mNo 2 1 je wt61)), .ref (ad 1), .ref (ad 2), .ref (ad 3), .ref (ad 4), .ref (ad 5), .ref (ad 6), .ref (ad 7), .ref (ad 8), .ref (ad 9), .ref (ad 10), .ref (ad 11), .ref (ad 12), .ref (ad 13), .int (nI (rdN (mNo 2 1 je wt61))), .ref (ad 15)])) := hmt63.1
                                          have hmd : MW G M62 x ad (mDel i 1 je we) := by rw [← hdl]; exact hmt63
                                          have hxdd : M62 x = some (.inr (8, [.int (rdH (mDel i 1 je we)), .ref (ad 1), .ref (ad 2), .ref (ad 3), .ref (ad 4), .ref (ad 5), .ref (ad 6), .ref (ad 7), .ref (ad 8), .ref (ad 9), .ref (ad 10), .ref (ad 11), .ref (ad 12), .ref (ad 13), .int (nI (rdN (mDel i 1 je we))), .ref (ad 15)])) := hmd.1
                                          refine lv_iinc (v := (nI (je + 1))) (lv' := [(6, .int (nI (je + 1))), (0, .ref x), (1, .int si), (5, .int 1), (4, .int (nI (rdN w)))]) hx hb dX7_flush_262 hl (k := 0) rfl (nI_1 _) (by decide) rfl (fun ls hl => ?_)
                                          refine lv_goto (tgt := 188) hx hb dX7_flush_265 (by decide) ?_
                                          have hze2 : (mDel i 1 je we) = itm (mDe i 1) (je + 1) wg := by
                                            show _ = (mDe i 1) je (itm (mDe i 1) je wg)
                                            rw [← hze]
                                            unfold mDe
                                            rw [if_pos (by rw [(bI_t c_209)])]
                                          exact ih (je + 1) (mDel i 1 je we) M62 H locs ls (by omega) (by omega) hze2 hmd frt63 hw hS (lv_sub hl [0, 1, 2, 3, 4] rfl)
                                  exact loope (rdK wg 1 + 1) 0 wg Mg _ _ ls (Nat.zero_le _) (Nat.le_of_eq (Nat.zero_add _).symm) rfl hmg hfg hw hS (lv_sub hl [0, 2, 3, 1, 4] rfl)
                                · have hklg : jg < rdK wc 1 := Nat.lt_of_not_le (fun q => c_141 (nI_le q (by omega)))
                                  have hj9g : jg < 1024 := by omega
                                  have hkwg : jg < rdK wg 1 := by rw [hng]; exact hklg
                                  refine lv_aload_n hx hb dX7_flush_144 rfl (lv_at hl 1 rfl) ?_
                                  refine lv_iload_n hx hb dX7_flush_145 rfl (lv_at hl 2 rfl) ?_
                                  refine lv_iload hx hb dX7_flush_146 (lv_at hl 3 rfl) ?_
                                  refine lv_iload hx hb dX7_flush_148 (lv_at hl 0 rfl) ?_
                                  refine m_callVi X (ci := 8) rfl hxlg hK hw hZ hS hA (As := [.int si, .int 1, .int (nI jg)]) (rest := []) (c_isDirtyK l G dce _ Mg x ad wg hmg i 1 jg hi (by decide) hj9g si ei 1 rfl) (cwV 3 hts gX7_flush_X7_isDirty rfl rfl rfl (by decide +kernel) ⟨Nat.le_of_ble_eq_true rfl, Nat.le_of_ble_eq_true rfl⟩) rfl hl.1 rfl (Nat.le_of_ble_eq_true rfl) dX7_flush_150 (Nat.le_of_ble_eq_true rfl) (Nat.le_of_ble_eq_true rfl) (fun r65 M64 H locs hp hw hS hz hk => ?_)
                                  rw [hp.2] at hw
                                  rw [hp.1]
                                  refine lv_if_eq (tgt := 165) hx hb dX7_flush_153 (by decide) (fun c_153 => ?_) (fun c_153 => ?_)
                                  · refine lv_iinc (v := (nI (jg + 1))) (lv' := [(6, .int (nI (jg + 1))), (0, .ref x), (1, .int si), (5, .int 1), (4, .int (nI (rdN w)))]) hx hb dX7_flush_165 hl (k := 0) rfl (nI_1 _) (by decide) rfl (fun ls hl => ?_)
                                    refine lv_goto (tgt := 132) hx hb dX7_flush_168 (by decide) ?_
                                    have hzg2 : wg = itm (mUp i 1) (jg + 1) wc := by
                                      show _ = (mUp i 1) jg (itm (mUp i 1) jg wc)
                                      rw [← hzg]
                                      unfold mUp
                                      rw [if_neg (by rw [((bI_0 _).mp c_153)]; decide)]
                                    exact ih (jg + 1) wg Mg H locs ls (by omega) (by omega) hzg2 hmg hfg hw hS (lv_sub hl [0, 1, 2, 3, 4] rfl)
                                  · refine lv_aload_n hx hb dX7_flush_156 rfl (lv_at hl 1 rfl) ?_
                                    refine lv_iload_n hx hb dX7_flush_157 rfl (lv_at hl 2 rfl) ?_
                                    refine lv_iload hx hb dX7_flush_158 (lv_at hl 3 rfl) ?_
                                    refine lv_iload hx hb dX7_flush_160 (lv_at hl 0 rfl) ?_
                                    refine m_callVv X (ci := 8) rfl hxlg hK hw hZ hS hA (As := [.int si, .int 1, .int (nI jg)]) (rest := []) (c_updatesK l G dce _ Mg x ad wg hmg i 1 jg hi (by decide) hj9g (by omega) si ei 1 rfl) (cwV 3 hts gX7_flush_X7_updates rfl rfl rfl (by decide +kernel) ⟨Nat.le_of_ble_eq_true rfl, Nat.le_of_ble_eq_true rfl⟩) rfl hl.1 rfl (Nat.le_of_ble_eq_true rfl) dX7_flush_162 (Nat.le_of_ble_eq_true rfl) (Nat.le_of_ble_eq_true rfl) (fun M66 H locs hp hw hS hz hk => ?_)
                                    obtain ⟨hmt67, hft67⟩ := hp
                                    have frt67 := mFr.tr hfg hft67
                                    have hxt67 : M66 x = some (.inr (8, [.int (rdH (mUpd i 1 jg wg)), .ref (ad 1), .ref (ad 2), .ref (ad 3), .ref (ad 4), .ref (ad 5), .ref (ad 6), .ref (ad 7), .ref (ad 8), .ref (ad 9), .ref (ad 10), .ref (ad 11), .ref (ad 12), .ref (ad 13), .int (nI (rdN (mUpd i 1 jg wg))), .ref (ad 15)])) := hmt67.1
                                    refine lv_iinc (v := (nI (jg + 1))) (lv' := [(6, .int (nI (jg + 1))), (0, .ref x), (1, .int si), (5, .int 1), (4, .int (nI (rdN w)))]) hx hb dX7_flush_165 hl (k := 0) rfl (nI_1 _) (by decide) rfl (fun ls hl => ?_)
                                    refine lv_goto (tgt := 132) hx hb dX7_flush_168 (by decide) ?_
                                    have hzg2 : (mUpd i 1 jg wg) = itm (mUp i 1) (jg + 1) wc := by
                                      show _ = (mUp i 1) jg (itm (mUp i 1) jg wc)
                                      rw [← hzg]
                                      unfold mUp
                                      rw [if_pos (by rw [(bI_t c_153)])]
                                    exact ih (jg + 1) (mUpd i 1 jg wg) M66 H locs ls (by omega) (by omega) hzg2 hmt67 frt67 hw hS (lv_sub hl [0, 1, 2, 3, 4] rfl)
                            exact loopg (rdK wc 1 + 1) 0 wc Mc _ _ ls (Nat.zero_le _) (Nat.le_of_eq (Nat.zero_add _).symm) rfl hmc hfc hw hS (lv_sub hl [0, 2, 3, 1, 4] rfl)
                          · have hklc : jc < rdK wb 0 := Nat.lt_of_not_le (fun q => c_141 (nI_le q (by omega)))
                            have hj9c : jc < 1024 := by omega
                            have hkwc : jc < rdK wc 0 := by rw [hnc]; exact hklc
                            refine lv_aload_n hx hb dX7_flush_144 rfl (lv_at hl 1 rfl) ?_
                            refine lv_iload_n hx hb dX7_flush_145 rfl (lv_at hl 2 rfl) ?_
                            refine lv_iload hx hb dX7_flush_146 (lv_at hl 3 rfl) ?_
                            refine lv_iload hx hb dX7_flush_148 (lv_at hl 0 rfl) ?_
                            refine m_callVi X (ci := 8) rfl hxlc hK hw hZ hS hA (As := [.int si, .int 0, .int (nI jc)]) (rest := []) (c_isDirtyK l G dce _ Mc x ad wc hmc i 0 jc hi (by decide) hj9c si ei 0 rfl) (cwV 3 hts gX7_flush_X7_isDirty rfl rfl rfl (by decide +kernel) ⟨Nat.le_of_ble_eq_true rfl, Nat.le_of_ble_eq_true rfl⟩) rfl hl.1 rfl (Nat.le_of_ble_eq_true rfl) dX7_flush_150 (Nat.le_of_ble_eq_true rfl) (Nat.le_of_ble_eq_true rfl) (fun r69 M68 H locs hp hw hS hz hk => ?_)
                            rw [hp.2] at hw
                            rw [hp.1]
                            refine lv_if_eq (tgt := 165) hx hb dX7_flush_153 (by decide) (fun c_153 => ?_) (fun c_153 => ?_)
                            · refine lv_iinc (v := (nI (jc + 1))) (lv' := [(6, .int (nI (jc + 1))), (0, .ref x), (1, .int si), (5, .int 0), (4, .int (nI (rdN w)))]) hx hb dX7_flush_165 hl (k := 0) rfl (nI_1 _) (by decide) rfl (fun ls hl => ?_)
                              refine lv_goto (tgt := 132) hx hb dX7_flush_168 (by decide) ?_
                              have hzc2 : wc = itm (mUp i 0) (jc + 1) wb := by
                                show _ = (mUp i 0) jc (itm (mUp i 0) jc wb)
                                rw [← hzc]
                                unfold mUp
                                rw [if_neg (by rw [((bI_0 _).mp c_153)]; decide)]
                              exact ih (jc + 1) wc Mc H locs ls (by omega) (by omega) hzc2 hmc hfc hw hS (lv_sub hl [0, 1, 2, 3, 4] rfl)
                            · refine lv_aload_n hx hb dX7_flush_156 rfl (lv_at hl 1 rfl) ?_
                              refine lv_iload_n hx hb dX7_flush_157 rfl (lv_at hl 2 rfl) ?_
                              refine lv_iload hx hb dX7_flush_158 (lv_at hl 3 rfl) ?_
                              refine lv_iload hx hb dX7_flush_160 (lv_at hl 0 rfl) ?_
                              refine m_callVv X (ci := 8) rfl hxlc hK hw hZ hS hA (As := [.int si, .int 0, .int (nI jc)]) (rest := []) (c_updatesK l G dce _ Mc x ad wc hmc i 0 jc hi (by decide) hj9c (by omega) si ei 0 rfl) (cwV 3 hts gX7_flush_X7_updates rfl rfl rfl (by decide +kernel) ⟨Nat.le_of_ble_eq_true rfl, Nat.le_of_ble_eq_true rfl⟩) rfl hl.1 rfl (Nat.le_of_ble_eq_true rfl) dX7_flush_162 (Nat.le_of_ble_eq_true rfl) (Nat.le_of_ble_eq_true rfl) (fun M70 H locs hp hw hS hz hk => ?_)
                              obtain ⟨hmt71, hft71⟩ := hp
                              have frt71 := mFr.tr hfc hft71
                              have hxt71 : M70 x = some (.inr (8, [.int (rdH (mUpd i 0 jc wc)), .ref (ad 1), .ref (ad 2), .ref (ad 3), .ref (ad 4), .ref (ad 5), .ref (ad 6), .ref (ad 7), .ref (ad 8), .ref (ad 9), .ref (ad 10), .ref (ad 11), .ref (ad 12), .ref (ad 13), .int (nI (rdN (mUpd i 0 jc wc))), .ref (ad 15)])) := hmt71.1
                              refine lv_iinc (v := (nI (jc + 1))) (lv' := [(6, .int (nI (jc + 1))), (0, .ref x), (1, .int si), (5, .int 0), (4, .int (nI (rdN w)))]) hx hb dX7_flush_165 hl (k := 0) rfl (nI_1 _) (by decide) rfl (fun ls hl => ?_)
                              refine lv_goto (tgt := 132) hx hb dX7_flush_168 (by decide) ?_
                              have hzc2 : (mUpd i 0 jc wc) = itm (mUp i 0) (jc + 1) wb := by
                                show _ = (mUp i 0) jc (itm (mUp i 0) jc wb)
                                rw [← hzc]
                                unfold mUp
                                rw [if_pos (by rw [(bI_t c_153)])]
                              exact ih (jc + 1) (mUpd i 0 jc wc) M70 H locs ls (by omega) (by omega) hzc2 hmt71 frt71 hw hS (lv_sub hl [0, 1, 2, 3, 4] rfl)
                      exact loopc (rdK wb 0 + 1) 0 wb Mb _ _ ls (Nat.zero_le _) (Nat.le_of_eq (Nat.zero_add _).symm) rfl hmb hfb hw hS (lv_sub hl [0, 2, 3, 1, 4] rfl)
                    · have hklb : jb < rdK wa 1 := Nat.lt_of_not_le (fun q => c_84 (nI_le q (by omega)))
                      have hj9b : jb < 1024 := by omega
                      have hkwb : jb < rdK wb 1 := by rw [hnb]; exact hklb
                      refine lv_aload_n hx hb dX7_flush_87 rfl (lv_at hl 1 rfl) ?_
                      refine lv_iload_n hx hb dX7_flush_88 rfl (lv_at hl 2 rfl) ?_
                      refine lv_iload hx hb dX7_flush_89 (lv_at hl 3 rfl) ?_
                      refine lv_iload hx hb dX7_flush_91 (lv_at hl 0 rfl) ?_
                      refine m_callVi X (ci := 8) rfl hxlb hK hw hZ hS hA (As := [.int si, .int 1, .int (nI jb)]) (rest := []) (c_isMadeK l G dce _ Mb x ad wb hmb i 1 jb hi (by decide) hj9b si ei 1 rfl) (cwV 3 hts gX7_flush_X7_isMade rfl rfl rfl (by decide +kernel) ⟨Nat.le_of_ble_eq_true rfl, Nat.le_of_ble_eq_true rfl⟩) rfl hl.1 rfl (Nat.le_of_ble_eq_true rfl) dX7_flush_93 (Nat.le_of_ble_eq_true rfl) (Nat.le_of_ble_eq_true rfl) (fun r73 M72 H locs hp hw hS hz hk => ?_)
                      rw [hp.2] at hw
                      rw [hp.1]
                      refine lv_if_eq (tgt := 108) hx hb dX7_flush_96 (by decide) (fun c_96 => ?_) (fun c_96 => ?_)
                      · refine lv_iinc (v := (nI (jb + 1))) (lv' := [(6, .int (nI (jb + 1))), (0, .ref x), (1, .int si), (5, .int 1), (4, .int (nI (rdN w)))]) hx hb dX7_flush_108 hl (k := 0) rfl (nI_1 _) (by decide) rfl (fun ls hl => ?_)
                        refine lv_goto (tgt := 75) hx hb dX7_flush_111 (by decide) ?_
                        have hzb2 : wb = itm (mIn i 1) (jb + 1) wa := by
                          show _ = (mIn i 1) jb (itm (mIn i 1) jb wa)
                          rw [← hzb]
                          unfold mIn
                          rw [if_neg (by rw [((bI_0 _).mp c_96)]; decide)]
                        exact ih (jb + 1) wb Mb H locs ls (by omega) (by omega) hzb2 hmb hfb hw hS (lv_sub hl [0, 1, 2, 3, 4] rfl)
                      · refine lv_aload_n hx hb dX7_flush_99 rfl (lv_at hl 1 rfl) ?_
                        refine lv_iload_n hx hb dX7_flush_100 rfl (lv_at hl 2 rfl) ?_
                        refine lv_iload hx hb dX7_flush_101 (lv_at hl 3 rfl) ?_
                        refine lv_iload hx hb dX7_flush_103 (lv_at hl 0 rfl) ?_
                        refine m_callVv X (ci := 8) rfl hxlb hK hw hZ hS hA (As := [.int si, .int 1, .int (nI jb)]) (rest := []) (c_insertsK l G dce _ Mb x ad wb hmb i 1 jb hi (by decide) hj9b (hIb.2.1 i 1 jb hi (by decide) hj9b (mMd_0 (bI_t c_96))).2 (by omega) si ei 1 rfl) (cwV 3 hts gX7_flush_X7_inserts rfl rfl rfl (by decide +kernel) ⟨Nat.le_of_ble_eq_true rfl, Nat.le_of_ble_eq_true rfl⟩) rfl hl.1 rfl (Nat.le_of_ble_eq_true rfl) dX7_flush_105 (Nat.le_of_ble_eq_true rfl) (Nat.le_of_ble_eq_true rfl) (fun M74 H locs hp hw hS hz hk => ?_)
                        obtain ⟨hmt75, hft75⟩ := hp
                        have frt75 := mFr.tr hfb hft75
                        have hxt75 : M74 x = some (.inr (8, [.int (rdH (mIns i 1 jb wb)), .ref (ad 1), .ref (ad 2), .ref (ad 3), .ref (ad 4), .ref (ad 5), .ref (ad 6), .ref (ad 7), .ref (ad 8), .ref (ad 9), .ref (ad 10), .ref (ad 11), .ref (ad 12), .ref (ad 13), .int (nI (rdN (mIns i 1 jb wb))), .ref (ad 15)])) := hmt75.1
                        refine lv_iinc (v := (nI (jb + 1))) (lv' := [(6, .int (nI (jb + 1))), (0, .ref x), (1, .int si), (5, .int 1), (4, .int (nI (rdN w)))]) hx hb dX7_flush_108 hl (k := 0) rfl (nI_1 _) (by decide) rfl (fun ls hl => ?_)
                        refine lv_goto (tgt := 75) hx hb dX7_flush_111 (by decide) ?_
                        have hzb2 : (mIns i 1 jb wb) = itm (mIn i 1) (jb + 1) wa := by
                          show _ = (mIn i 1) jb (itm (mIn i 1) jb wa)
                          rw [← hzb]
                          unfold mIn
                          rw [if_pos (by rw [(bI_t c_96)])]
                        exact ih (jb + 1) (mIns i 1 jb wb) M74 H locs ls (by omega) (by omega) hzb2 hmt75 frt75 hw hS (lv_sub hl [0, 1, 2, 3, 4] rfl)
                exact loopb (rdK wa 1 + 1) 0 wa Ma _ _ ls (Nat.zero_le _) (Nat.le_of_eq (Nat.zero_add _).symm) rfl hma hfa hw hS (lv_sub hl [0, 2, 3, 1, 4] rfl)
              · have hkla : ja < rdK (mH (mWbs i w) 0) 0 := Nat.lt_of_not_le (fun q => c_84 (nI_le q (by omega)))
                have hj9a : ja < 1024 := by omega
                have hkwa : ja < rdK wa 0 := by rw [hna]; exact hkla
                refine lv_aload_n hx hb dX7_flush_87 rfl (lv_at hl 1 rfl) ?_
                refine lv_iload_n hx hb dX7_flush_88 rfl (lv_at hl 2 rfl) ?_
                refine lv_iload hx hb dX7_flush_89 (lv_at hl 3 rfl) ?_
                refine lv_iload hx hb dX7_flush_91 (lv_at hl 0 rfl) ?_
                refine m_callVi X (ci := 8) rfl hxla hK hw hZ hS hA (As := [.int si, .int 0, .int (nI ja)]) (rest := []) (c_isMadeK l G dce _ Ma x ad wa hma i 0 ja hi (by decide) hj9a si ei 0 rfl) (cwV 3 hts gX7_flush_X7_isMade rfl rfl rfl (by decide +kernel) ⟨Nat.le_of_ble_eq_true rfl, Nat.le_of_ble_eq_true rfl⟩) rfl hl.1 rfl (Nat.le_of_ble_eq_true rfl) dX7_flush_93 (Nat.le_of_ble_eq_true rfl) (Nat.le_of_ble_eq_true rfl) (fun r77 M76 H locs hp hw hS hz hk => ?_)
                rw [hp.2] at hw
                rw [hp.1]
                refine lv_if_eq (tgt := 108) hx hb dX7_flush_96 (by decide) (fun c_96 => ?_) (fun c_96 => ?_)
                · refine lv_iinc (v := (nI (ja + 1))) (lv' := [(6, .int (nI (ja + 1))), (0, .ref x), (1, .int si), (5, .int 0), (4, .int (nI (rdN w)))]) hx hb dX7_flush_108 hl (k := 0) rfl (nI_1 _) (by decide) rfl (fun ls hl => ?_)
                  refine lv_goto (tgt := 75) hx hb dX7_flush_111 (by decide) ?_
                  have hza2 : wa = itm (mIn i 0) (ja + 1) (mH (mWbs i w) 0) := by
                    show _ = (mIn i 0) ja (itm (mIn i 0) ja (mH (mWbs i w) 0))
                    rw [← hza]
                    unfold mIn
                    rw [if_neg (by rw [((bI_0 _).mp c_96)]; decide)]
                  exact ih (ja + 1) wa Ma H locs ls (by omega) (by omega) hza2 hma hfa hw hS (lv_sub hl [0, 1, 2, 3, 4] rfl)
                · refine lv_aload_n hx hb dX7_flush_99 rfl (lv_at hl 1 rfl) ?_
                  refine lv_iload_n hx hb dX7_flush_100 rfl (lv_at hl 2 rfl) ?_
                  refine lv_iload hx hb dX7_flush_101 (lv_at hl 3 rfl) ?_
                  refine lv_iload hx hb dX7_flush_103 (lv_at hl 0 rfl) ?_
                  refine m_callVv X (ci := 8) rfl hxla hK hw hZ hS hA (As := [.int si, .int 0, .int (nI ja)]) (rest := []) (c_insertsK l G dce _ Ma x ad wa hma i 0 ja hi (by decide) hj9a (hIa.2.1 i 0 ja hi (by decide) hj9a (mMd_0 (bI_t c_96))).2 (by omega) si ei 0 rfl) (cwV 3 hts gX7_flush_X7_inserts rfl rfl rfl (by decide +kernel) ⟨Nat.le_of_ble_eq_true rfl, Nat.le_of_ble_eq_true rfl⟩) rfl hl.1 rfl (Nat.le_of_ble_eq_true rfl) dX7_flush_105 (Nat.le_of_ble_eq_true rfl) (Nat.le_of_ble_eq_true rfl) (fun M78 H locs hp hw hS hz hk => ?_)
                  obtain ⟨hmt79, hft79⟩ := hp
                  have frt79 := mFr.tr hfa hft79
                  have hxt79 : M78 x = some (.inr (8, [.int (rdH (mIns i 0 ja wa)), .ref (ad 1), .ref (ad 2), .ref (ad 3), .ref (ad 4), .ref (ad 5), .ref (ad 6), .ref (ad 7), .ref (ad 8), .ref (ad 9), .ref (ad 10), .ref (ad 11), .ref (ad 12), .ref (ad 13), .int (nI (rdN (mIns i 0 ja wa))), .ref (ad 15)])) := hmt79.1
                  refine lv_iinc (v := (nI (ja + 1))) (lv' := [(6, .int (nI (ja + 1))), (0, .ref x), (1, .int si), (5, .int 0), (4, .int (nI (rdN w)))]) hx hb dX7_flush_108 hl (k := 0) rfl (nI_1 _) (by decide) rfl (fun ls hl => ?_)
                  refine lv_goto (tgt := 75) hx hb dX7_flush_111 (by decide) ?_
                  have hza2 : (mIns i 0 ja wa) = itm (mIn i 0) (ja + 1) (mH (mWbs i w) 0) := by
                    show _ = (mIn i 0) ja (itm (mIn i 0) ja (mH (mWbs i w) 0))
                    rw [← hza]
                    unfold mIn
                    rw [if_pos (by rw [(bI_t c_96)])]
                  exact ih (ja + 1) (mIns i 0 ja wa) M78 H locs ls (by omega) (by omega) hza2 hmt79 frt79 hw hS (lv_sub hl [0, 1, 2, 3, 4] rfl)
          exact loopa (rdK (mH (mWbs i w) 0) 0 + 1) 0 (mH (mWbs i w) 0) M17 _ _ ls (Nat.zero_le _) (Nat.le_of_eq (Nat.zero_add _).symm) rfl hmt19 frt19 hw hS (lv_sub hl [0, 5, 6, 1, 2] rfl)
        · exact absurd c_33 c_6
