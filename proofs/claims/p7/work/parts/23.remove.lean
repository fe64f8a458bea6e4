theorem kOK_k {kd : Int32} (h : kOK kd = true) : ∃ k : Nat, k < 2 ∧ kd = nI k := by
  unfold kOK at h
  rcases Bool.or_eq_true_iff.mp h with h | h
  · exact ⟨0, by omega, by rw [of_decide_eq_true h]; decide⟩
  · exact ⟨1, by omega, by rw [of_decide_eq_true h]; decide⟩
theorem live_in {z : cZ} {i k : Nat} {ky : Int32} (hn : zN z (sL i k) ≤ 1024) (h : fLive (eV z i k ky) = true) : ∃ j : Nat, j < zN z (sL i k) ∧ ky = nI j := by
  by_cases q : inK (zN z (sL i k)) ky = true
  · exact inK_n hn q
  · unfold eV at h
    rw [if_neg q] at h
    cases h
def aS (si : Int32) (i : Nat) : Prop := i < 3 ∧ si = nI i
def aK (kd : Int32) (k : Nat) : Prop := k < 2 ∧ kd = nI k
def fNm : vE → Int32 → vE := fun (b1, b2, b3, _, rf, sn, sr, sv) nm => (b1, b2, b3, nm, rf, sn, sr, sv)
def fRf : vE → Int32 → vE := fun (b1, b2, b3, nm, _, sn, sr, sv) rf => (b1, b2, b3, nm, rf, sn, sr, sv)
def kNm (i k j : Nat) (nm : Int32) (z : cZ) : cZ := sE z (sL i k) j (fNm (zE z (sL i k) j) nm)
def kRf (i k j : Nat) (rf : Int32) (z : cZ) : cZ := sE z (sL i k) j (fRf (zE z (sL i k) j) rf)
def kFi (i k : Nat) (ky : Int32) (z : cZ) : cZ := if ((rV z k ky).1 && !(eV z i k ky).1) = true then sE z (sL i k) ky.toNatClampNeg (fLoad (eV z i k ky) (rV z k ky)) else z
def eNm : vE → Int32 := fun (_, _, _, nm, _) => nm
def eRf : vE → Int32 := fun (_, _, _, _, rf, _) => rf
set_option maxHeartbeats 4000000 in
set_option maxRecDepth 100000 in
theorem c_removeBook (l : Launch) (G : gG) (dce sz : Nat) (M : gM) (x : Nat) (ad : Nat → Nat) (y : cY) (z : cZ) (hcw : CW G dce x ad M y z) (i : Nat) (hi : i < 3) (heq : cEq z) (b : Nat) (hbk : b < zN z (sL i 1)) : mV l yX6_removeBook wsX6_removeBook ({ frames := 5, cells := 0, slots := 0, locals := 114 }) G dce sz M [.ref x, .ref (ad (4 + i)), .int (nI b)] (fun M' => cTo G dce x ad M y z M' (kRmB i b z)) (0) (0) := by
  have hx9 : M x = some (.inr (7, [.ref (ad 0), .ref (ad 1), .ref (ad 2), .ref (ad 3)])) := hcw.1.1
  have hs9 : M (ad (4 + i)) = some (.inr (5, [.ref (ad (12 + 2 * i)), .ref (ad (13 + 2 * i)), .ref (ad (40 + i))])) := (hcw.1.2.2.2 i hi).1
  refine wMet (Qc := QV G _) (cc := cX6_removeBook) (maxL := 5) (ret := none) (by decide) rfl (Nat.le_of_ble_eq_true rfl) ?_
  intro p e s m below meth c A ls X hnm hw hK hZ hA hS hsz eA hl
  obtain ⟨hx, hb, hr, hts, hown, hlk, hml⟩ := id X
  have hl : lv_has ls 5 [(0, .ref x), (1, .ref (ad (4 + i))), (2, .int (nI b))] := hl
  have iX0 : ∀ w ∈ wsX00, w ∈ wsX6_removeBook := by decide +kernel
  refine lv_aload_n hx hb dX6_removeBook_0 rfl (lv_at hl 1 rfl) ?_
  refine lv_iconst (v := 1) hx hb dX6_removeBook_1 (by decide) ?_
  refine lv_iload_n hx hb dX6_removeBook_2 rfl (lv_at hl 2 rfl) ?_
  refine m_callVr X (ci := 5) rfl hs9 hK hw hZ hS hA (As := [.int 1, .int (nI b)]) (rest := []) (c_entityAtK l G dce _ M x ad y z hcw i 1 hi (by decide) (nI b) 1 (by decide)) (cwV 2 hts gX6_removeBook_X4_entityAt rfl rfl rfl (by decide +kernel) ⟨Nat.le_of_ble_eq_true rfl, Nat.le_of_ble_eq_true rfl⟩) rfl hl.1 rfl (Nat.le_of_ble_eq_true rfl) dX6_removeBook_3 (Nat.le_of_ble_eq_true rfl) (Nat.le_of_ble_eq_true rfl) (fun r2 M1 H locs hp hw hS hz hk => ?_)
  rw [hp.2] at hw
  rw [hp.1, eA_in (hcw.n (by unfold sL; omega)) hbk]
  have henq : M ((yO y (sL i 1) b)) = some (eE (zE z (sL i 1) b)) := hcw.ent (by unfold sL; omega) (by unfold sL; omega) hbk
  obtain ⟨b1q, b2q, b3q, nmq, rfq, snq, srq, svq, hevq⟩ : ∃ b1q b2q b3q nmq rfq snq srq svq, (zE z (sL i 1) b) = (b1q, b2q, b3q, nmq, rfq, snq, srq, svq) := ⟨_, _, _, _, _, _, _, _, rfl⟩
  have hecq : M ((yO y (sL i 1) b)) = some (.inr (1, [.int (bI b1q), .int (bI b2q), .int (bI b3q), .int nmq, .int rfq, .int snq, .int srq, .int svq])) := by rw [henq, hevq]; rfl
  refine m_callVv X (ci := 1) rfl hecq hK hw hZ hS hA (As := []) (rest := []) (c_X0_strikeOut l G dce _ M (yO y (sL i 1) b) (zE z (sL i 1) b) henq) (cwV 0 hts gX6_removeBook_X0_strikeOut rfl rfl rfl (by decide +kernel) ⟨Nat.le_of_ble_eq_true rfl, Nat.le_of_ble_eq_true rfl⟩) rfl hl.1 rfl (Nat.le_of_ble_eq_true rfl) dX6_removeBook_6 (Nat.le_of_ble_eq_true rfl) (Nat.le_of_ble_eq_true rfl) (fun M3 H locs hp hw hS hz hk => ?_)
  obtain ⟨hcA, hsA⟩ := hcw.setE (u := sL i 1) (k := b) (by unfold sL; omega) (by unfold sL; omega) hbk hp
  obtain ⟨zA, hzA⟩ : ∃ zA, zA = kSt i 1 b z := ⟨_, rfl⟩
  have hcA : CW G dce x ad M3 y zA := by rw [hzA]; exact hcA
  have hsA : cStep ad dce y z M y zA M3 := by rw [hzA]; exact hsA
  have hnA : zN zA = zN z := by rw [hzA]; rfl
  have hx8 : M3 x = some (.inr (7, [.ref (ad 0), .ref (ad 1), .ref (ad 2), .ref (ad 3)])) := hcA.1.1
  refine lv_aload_n hx hb dX6_removeBook_9 rfl (lv_at hl 0 rfl) ?_
  refine lv_aload_n hx hb dX6_removeBook_10 rfl (lv_at hl 1 rfl) ?_
  refine lv_iconst (v := 0) hx hb dX6_removeBook_11 (by decide) ?_
  refine lv_iload_n hx hb dX6_removeBook_12 rfl (lv_at hl 2 rfl) ?_
  refine m_callVv X (ci := 7) rfl hx8 hK hw hZ hS hA (As := [.ref (ad (4 + i)), .int 0, .int (nI b)]) (rest := []) (c_loadReferringK l G dce _ M3 x ad y zA hcA i 0 hi (by decide) (nI b) (by rw [hnA]; exact heq i 0 hi (by decide)) 0 (by decide)) (cwV 3 hts gX6_removeBook_X6_loadReferring rfl rfl rfl (by decide +kernel) ⟨Nat.le_of_ble_eq_true rfl, Nat.le_of_ble_eq_true rfl⟩) rfl hl.1 rfl (Nat.le_of_ble_eq_true rfl) dX6_removeBook_13 (Nat.le_of_ble_eq_true rfl) (Nat.le_of_ble_eq_true rfl) (fun M4 H locs hp hw hS hz hk => ?_)
  obtain ⟨yb, hob, hcb, hsb⟩ := hp
  obtain ⟨zb, hzb⟩ : ∃ zb, zb = itr (kLd i 0 (nI b)) (zN zA 0) zA := ⟨_, rfl⟩
  rw [← hzb] at hcb hsb
  have hnb : zN zb = zN z := by rw [hzb, itr_N (kLd_N i 0 (nI b)), hnA]
  refine lv_iconst (v := 0) hx hb dX6_removeBook_16 (by decide) ?_
  refine lv_istore_n (lv' := [(3, .int 0), (0, .ref x), (1, .ref (ad (4 + i))), (2, .int (nI b))]) hx hb dX6_removeBook_17 rfl hl (by decide) rfl (fun ls hl => ?_)
  have loop : ∀ (d : Nat) (j : Nat) (z1 : cZ) (Mi : gM)  (H : Heap) (locs : List Loc) (ls : Array Slot), j ≤ (zN z (sL i 0)) → (zN z (sL i 0)) + 1 ≤ j + d → z1 = itr (kCl i (nI b)) j zb → cTo G dce x ad M4 yb zb Mi z1 → wd G A Mi H → va_S A s.heap H locs → lv_has ls 5 [(3, .int (nI j)), (1, .ref (ad (4 + i))), (2, .int (nI b))] → W p l e ({ frames := 5, cells := 0, slots := 0, locals := 114 }) s m [.ref x, .ref (ad (4 + i)), .int (nI b)].toArray below meth c H locs (0) (0) (MQ below (QV G (fun M' => cTo G dce x ad M y z M' (kRmB i b z)) A) [.ref x, .ref (ad (4 + i)), .int (nI b)].toArray s (0) (0) A) (F0 m 18 ls []) := by
    intro d
    induction d with
    | zero => intro j z1 Mi H locs ls h1 h2; exact absurd h2 (by omega)
    | succ d ih =>
      intro j z1 Mi H locs ls hj1 hj2 hz1 hto hw hS hl
      obtain ⟨y1, ho, hc1, hs1⟩ := hto
      have hn1 : zN z1 = zN zb := by rw [hz1]; exact itr_N (kCl_N i (nI b)) j zb
      have hn1 : zN z1 = zN z := hn1.trans hnb
      have hjn : zN z (sL i 0) ≤ 1024 := hcw.n (by unfold sL; omega)
      have hs9 : Mi (ad (4 + i)) = some (.inr (5, [.ref (ad (12 + 2 * i)), .ref (ad (13 + 2 * i)), .ref (ad (40 + i))])) := (hc1.1.2.2.2 i hi).1
      refine lv_iload_n hx hb dX6_removeBook_18 rfl (lv_at hl 0 rfl) ?_
      refine lv_aload_n hx hb dX6_removeBook_19 rfl (lv_at hl 1 rfl) ?_
      refine lv_iconst (v := 0) hx hb dX6_removeBook_20 (by decide) ?_
      refine m_callVi X (ci := 5) rfl hs9 hK hw hZ hS hA (As := [.int 0]) (rest := [.int (nI j)]) (c_sizeOfK l G dce _ Mi x ad y1 z1 hc1 i 0 hi (by decide) 0 (by decide)) (cwV 1 hts gX6_removeBook_X4_sizeOf rfl rfl rfl (by decide +kernel) ⟨Nat.le_of_ble_eq_true rfl, Nat.le_of_ble_eq_true rfl⟩) rfl hl.1 rfl (Nat.le_of_ble_eq_true rfl) dX6_removeBook_21 (Nat.le_of_ble_eq_true rfl) (Nat.le_of_ble_eq_true rfl) (fun r6 M5 H locs hp hw hS hz hk => ?_)
      rw [hp.2] at hw
      rw [hp.1, hn1]
      refine lv_icmp_ge (tgt := 56) hx hb dX6_removeBook_24 (by decide) (fun c_24 => ?_) (fun c_24 => ?_)
      · have hkn : (zN z (sL i 0)) ≤ j := (nI_leI (by omega) (by omega)).mp c_24
        have hjj : j = (zN z (sL i 0)) := by omega
        rw [hjj] at hz1
        have hzz : z1 = kRmB i b z := by
          rw [hz1, hzb, hnA, hzA]
          rfl
        exact m_vret X hK hw hS (by rw [← hzz]; exact cTo.tr rfl hsA (cTo.tr hob hsb ⟨y1, ho, hc1, hs1⟩)) (by omega) (by omega) dX6_removeBook_56
      · have hkl : j < (zN z (sL i 0)) := Nat.lt_of_not_le (fun q => c_24 (nI_le q (by omega)))
        refine lv_aload_n hx hb dX6_removeBook_27 rfl (lv_at hl 1 rfl) ?_
        refine lv_iconst (v := 0) hx hb dX6_removeBook_28 (by decide) ?_
        refine lv_iload_n hx hb dX6_removeBook_29 rfl (lv_at hl 0 rfl) ?_
        refine m_callVr X (ci := 5) rfl hs9 hK hw hZ hS hA (As := [.int 0, .int (nI j)]) (rest := []) (c_entityAtK l G dce _ Mi x ad y1 z1 hc1 i 0 hi (by decide) (nI j) 0 (by decide)) (cwV 2 hts gX6_removeBook_X4_entityAt rfl rfl rfl (by decide +kernel) ⟨Nat.le_of_ble_eq_true rfl, Nat.le_of_ble_eq_true rfl⟩) rfl hl.1 rfl (Nat.le_of_ble_eq_true rfl) dX6_removeBook_30 (Nat.le_of_ble_eq_true rfl) (Nat.le_of_ble_eq_true rfl) (fun r8 M7 H locs hp hw hS hz hk => ?_)
        rw [hp.2] at hw
        rw [hp.1, eA_in (by rw [hn1]; exact hjn) (by rw [hn1]; exact hkl)]
        have hen : Mi ((yO y1 (sL i 0) j)) = some (eE (zE z1 (sL i 0) j)) := hc1.ent (by unfold sL; omega) (by unfold sL; omega) (by rw [hn1]; exact hkl)
        obtain ⟨b1, b2, b3, nm, rf, sn, sr, sv, hev⟩ : ∃ b1 b2 b3 nm rf sn sr sv, (zE z1 (sL i 0) j) = (b1, b2, b3, nm, rf, sn, sr, sv) := ⟨_, _, _, _, _, _, _, _, rfl⟩
        have hec : Mi ((yO y1 (sL i 0) j)) = some (.inr (1, [.int (bI b1), .int (bI b2), .int (bI b3), .int nm, .int rf, .int sn, .int sr, .int sv])) := by rw [hen, hev]; rfl
        refine lv_astore (lv' := [(4, .ref (yO y1 (sL i 0) j)), (3, .int (nI j)), (1, .ref (ad (4 + i))), (2, .int (nI b))]) hx hb dX6_removeBook_33 hl (by decide) rfl (fun ls hl => ?_)
        refine lv_aload hx hb dX6_removeBook_35 (lv_at hl 0 rfl) ?_
        refine lv_iload_n hx hb dX6_removeBook_37 rfl (lv_at hl 3 rfl) ?_
        refine m_callVi X (ci := 1) rfl hec hK hw hZ hS hA (As := [.int (nI b)]) (rest := []) (c_X0_isLiveAndRefersTo l G dce _ Mi (yO y1 (sL i 0) j) (zE z1 (sL i 0) j) hen (nI b)) (cwV 1 hts gX6_removeBook_X0_isLiveAndRefersTo rfl rfl rfl (by decide +kernel) ⟨Nat.le_of_ble_eq_true rfl, Nat.le_of_ble_eq_true rfl⟩) rfl hl.1 rfl (Nat.le_of_ble_eq_true rfl) dX6_removeBook_38 (Nat.le_of_ble_eq_true rfl) (Nat.le_of_ble_eq_true rfl) (fun r10 M9 H locs hp hw hS hz hk => ?_)
        rw [hp.2] at hw
        rw [hp.1]
        refine lv_if_eq (tgt := 50) hx hb dX6_removeBook_41 (by decide) (fun c_41 => ?_) (fun c_41 => ?_)
        · have hF : kCl i (nI b) j z1 = z1 := if_neg (bI_f c_41)
          refine lv_iinc (v := (nI (j + 1))) (lv' := [(3, .int (nI (j + 1))), (4, .ref (yO y1 (sL i 0) j)), (1, .ref (ad (4 + i))), (2, .int (nI b))]) hx hb dX6_removeBook_50 hl (k := 1) rfl (nI_1 _) (by decide) rfl (fun ls hl => ?_)
          refine lv_goto (tgt := 18) hx hb dX6_removeBook_53 (by decide) ?_
          have hz2 : z1 = itr (kCl i (nI b)) (j + 1) zb := by
            show _ = (kCl i (nI b)) j (itr (kCl i (nI b)) j zb)
            rw [← hz1]
            exact (hF).symm
          exact ih (j + 1) z1 Mi H locs ls (by omega) (by omega) hz2 (⟨y1, ho, hc1, hs1⟩) hw hS (lv_sub hl [0, 2, 3] rfl)
        · refine lv_aload hx hb dX6_removeBook_44 (lv_at hl 0 rfl) ?_
          refine lv_iconst (v := (-1)) hx hb dX6_removeBook_46 (by decide) ?_
          refine m_put X iX0 tyX0_ok nmX0 hK hw hS hec rfl 4 (by decide) (ref := "ObjectMapper$Entity") (by decide +kernel) (Or.inl rfl) rfl (v := .int (-1)) rfl rfl (Nat.le_of_ble_eq_true rfl) (fs1 := [.int (bI b1), .int (bI b2), .int (bI b3), .int nm, .int (-1), .int sn, .int sr, .int sv]) rfl dX6_removeBook_47 (fun M11 H locs eM11 hw hS => ?_)
          have k12 := (congrFun eM11 ((ad (4 + i)))).trans (mu_g hs9 (gM_ne hs9 hec (by simp)))
          have k13 : M11 ((yO y1 (sL i 0) j)) = some (.inr (1, [.int (bI b1), .int (bI b2), .int (bI b3), .int nm, .int (-1), .int sn, .int sr, .int sv])) := by rw [eM11]; exact mu_s _ _ _
          have ep : M11 = mu Mi (yO y1 (sL i 0) j) (eE (fClr (zE z1 (sL i 0) j))) := by rw [eM11, hev]; rfl
          obtain ⟨hc2, hs2⟩ := hc1.setE (u := sL i 0) (k := j) (by unfold sL; omega) (by unfold sL; omega) (by rw [hn1]; exact hkl) ep
          have hF : kCl i (nI b) j z1 = sE z1 (sL i 0) j (fClr (zE z1 (sL i 0) j)) := if_pos (bI_t c_41)
          refine lv_iinc (v := (nI (j + 1))) (lv' := [(3, .int (nI (j + 1))), (4, .ref (yO y1 (sL i 0) j)), (1, .ref (ad (4 + i))), (2, .int (nI b))]) hx hb dX6_removeBook_50 hl (k := 1) rfl (nI_1 _) (by decide) rfl (fun ls hl => ?_)
          refine lv_goto (tgt := 18) hx hb dX6_removeBook_53 (by decide) ?_
          have hz2 : (sE z1 (sL i 0) j (fClr (zE z1 (sL i 0) j))) = itr (kCl i (nI b)) (j + 1) zb := by
            show _ = (kCl i (nI b)) j (itr (kCl i (nI b)) j zb)
            rw [← hz1]
            exact (hF).symm
          exact ih (j + 1) (sE z1 (sL i 0) j (fClr (zE z1 (sL i 0) j))) M11 H locs ls (by omega) (by omega) hz2 (cTo.tr ho hs1 ⟨y1, rfl, hc2, hs2⟩) hw hS (lv_sub hl [0, 2, 3] rfl)
  exact loop ((zN z (sL i 0)) + 1) 0 zb M4 _ _ ls (Nat.zero_le _) (by omega) rfl (cTo.rf hcb) hw hS (lv_sub hl [0, 2, 3] rfl)
set_option maxHeartbeats 4000000 in
set_option maxRecDepth 100000 in
theorem c_removeAuthor (l : Launch) (G : gG) (dce sz : Nat) (M : gM) (x : Nat) (ad : Nat → Nat) (y : cY) (z : cZ) (hcw : CW G dce x ad M y z) (i : Nat) (hi : i < 3) (heq : cEq z) (b : Nat) (hbk : b < zN z (sL i 0)) : mI l yX6_removeAuthor wsX6_removeAuthor ({ frames := 6, cells := 0, slots := 0, locals := 138 }) G dce sz M [.ref x, .ref (ad (4 + i)), .int (nI b)] (fun r M' => r = nI (cnt (fun j => fRefs (zE (itr (kRb i (nI b)) j (kRm0 i b z)) (sL i 1) j) (nI b)) (zN z (sL i 1)) + 1) ∧ cTo G dce x ad M y z M' (kRmA i b z)) (0) (0) := by
  have hx9 : M x = some (.inr (7, [.ref (ad 0), .ref (ad 1), .ref (ad 2), .ref (ad 3)])) := hcw.1.1
  have hs9 : M (ad (4 + i)) = some (.inr (5, [.ref (ad (12 + 2 * i)), .ref (ad (13 + 2 * i)), .ref (ad (40 + i))])) := (hcw.1.2.2.2 i hi).1
  refine wMet (Qc := QI G _) (cc := cX6_removeAuthor) (maxL := 5) (ret := (some .int)) (by decide) rfl (Nat.le_of_ble_eq_true rfl) ?_
  intro p e s m below meth c A ls X hnm hw hK hZ hA hS hsz eA hl
  obtain ⟨hx, hb, hr, hts, hown, hlk, hml⟩ := id X
  have hl : lv_has ls 5 [(0, .ref x), (1, .ref (ad (4 + i))), (2, .int (nI b))] := hl
  refine lv_aload_n hx hb dX6_removeAuthor_0 rfl (lv_at hl 1 rfl) ?_
  refine lv_iconst (v := 0) hx hb dX6_removeAuthor_1 (by decide) ?_
  refine lv_iload_n hx hb dX6_removeAuthor_2 rfl (lv_at hl 2 rfl) ?_
  refine m_callVr X (ci := 5) rfl hs9 hK hw hZ hS hA (As := [.int 0, .int (nI b)]) (rest := []) (c_entityAtK l G dce _ M x ad y z hcw i 0 hi (by decide) (nI b) 0 (by decide)) (cwV 2 hts gX6_removeAuthor_X4_entityAt rfl rfl rfl (by decide +kernel) ⟨Nat.le_of_ble_eq_true rfl, Nat.le_of_ble_eq_true rfl⟩) rfl hl.1 rfl (Nat.le_of_ble_eq_true rfl) dX6_removeAuthor_3 (Nat.le_of_ble_eq_true rfl) (Nat.le_of_ble_eq_true rfl) (fun r2 M1 H locs hp hw hS hz hk => ?_)
  rw [hp.2] at hw
  rw [hp.1, eA_in (hcw.n (by unfold sL; omega)) hbk]
  have henq : M ((yO y (sL i 0) b)) = some (eE (zE z (sL i 0) b)) := hcw.ent (by unfold sL; omega) (by unfold sL; omega) hbk
  obtain ⟨b1q, b2q, b3q, nmq, rfq, snq, srq, svq, hevq⟩ : ∃ b1q b2q b3q nmq rfq snq srq svq, (zE z (sL i 0) b) = (b1q, b2q, b3q, nmq, rfq, snq, srq, svq) := ⟨_, _, _, _, _, _, _, _, rfl⟩
  have hecq : M ((yO y (sL i 0) b)) = some (.inr (1, [.int (bI b1q), .int (bI b2q), .int (bI b3q), .int nmq, .int rfq, .int snq, .int srq, .int svq])) := by rw [henq, hevq]; rfl
  refine m_callVv X (ci := 1) rfl hecq hK hw hZ hS hA (As := []) (rest := []) (c_X0_strikeOut l G dce _ M (yO y (sL i 0) b) (zE z (sL i 0) b) henq) (cwV 0 hts gX6_removeAuthor_X0_strikeOut rfl rfl rfl (by decide +kernel) ⟨Nat.le_of_ble_eq_true rfl, Nat.le_of_ble_eq_true rfl⟩) rfl hl.1 rfl (Nat.le_of_ble_eq_true rfl) dX6_removeAuthor_6 (Nat.le_of_ble_eq_true rfl) (Nat.le_of_ble_eq_true rfl) (fun M3 H locs hp hw hS hz hk => ?_)
  obtain ⟨hcA, hsA⟩ := hcw.setE (u := sL i 0) (k := b) (by unfold sL; omega) (by unfold sL; omega) hbk hp
  obtain ⟨zA, hzA⟩ : ∃ zA, zA = kSt i 0 b z := ⟨_, rfl⟩
  have hcA : CW G dce x ad M3 y zA := by rw [hzA]; exact hcA
  have hsA : cStep ad dce y z M y zA M3 := by rw [hzA]; exact hsA
  have hnA : zN zA = zN z := by rw [hzA]; rfl
  have hx8 : M3 x = some (.inr (7, [.ref (ad 0), .ref (ad 1), .ref (ad 2), .ref (ad 3)])) := hcA.1.1
  refine lv_aload_n hx hb dX6_removeAuthor_9 rfl (lv_at hl 0 rfl) ?_
  refine lv_aload_n hx hb dX6_removeAuthor_10 rfl (lv_at hl 1 rfl) ?_
  refine lv_iconst (v := 1) hx hb dX6_removeAuthor_11 (by decide) ?_
  refine lv_iload_n hx hb dX6_removeAuthor_12 rfl (lv_at hl 2 rfl) ?_
  refine m_callVv X (ci := 7) rfl hx8 hK hw hZ hS hA (As := [.ref (ad (4 + i)), .int 1, .int (nI b)]) (rest := []) (c_loadReferringK l G dce _ M3 x ad y zA hcA i 1 hi (by decide) (nI b) (by rw [hnA]; exact heq i 1 hi (by decide)) 1 (by decide)) (cwV 3 hts gX6_removeAuthor_X6_loadReferring rfl rfl rfl (by decide +kernel) ⟨Nat.le_of_ble_eq_true rfl, Nat.le_of_ble_eq_true rfl⟩) rfl hl.1 rfl (Nat.le_of_ble_eq_true rfl) dX6_removeAuthor_13 (Nat.le_of_ble_eq_true rfl) (Nat.le_of_ble_eq_true rfl) (fun M4 H locs hp hw hS hz hk => ?_)
  obtain ⟨yb, hob, hcb, hsb⟩ := hp
  obtain ⟨zb, hzb⟩ : ∃ zb, zb = kRm0 i b z := ⟨_, rfl⟩
  have hzc : itr (kLd i 1 (nI b)) (zN zA 1) zA = zb := by rw [hzb, hzA]; rfl
  rw [hzc] at hcb hsb
  have hnb : zN zb = zN z := by rw [← hzc, itr_N (kLd_N i 1 (nI b)), hnA]
  refine lv_iconst (v := 1) hx hb dX6_removeAuthor_16 (by decide) ?_
  refine lv_istore_n (lv' := [(3, .int 1), (0, .ref x), (1, .ref (ad (4 + i))), (2, .int (nI b))]) hx hb dX6_removeAuthor_17 rfl hl (by decide) rfl (fun ls hl => ?_)
  refine lv_iconst (v := 0) hx hb dX6_removeAuthor_18 (by decide) ?_
  refine lv_istore (lv' := [(4, .int 0), (3, .int 1), (0, .ref x), (1, .ref (ad (4 + i))), (2, .int (nI b))]) hx hb dX6_removeAuthor_19 hl (by decide) rfl (fun ls hl => ?_)
  have loop : ∀ (d : Nat) (j : Nat) (z1 : cZ) (Mi : gM)  (H : Heap) (locs : List Loc) (ls : Array Slot), j ≤ (zN z (sL i 1)) → (zN z (sL i 1)) + 1 ≤ j + d → z1 = itr (kRb i (nI b)) j zb → cTo G dce x ad M4 yb zb Mi z1 → wd G A Mi H → va_S A s.heap H locs → lv_has ls 5 [(4, .int (nI j)), (3, .int (nI (cnt (fun j => fRefs (zE (itr (kRb i (nI b)) j (kRm0 i b z)) (sL i 1) j) (nI b)) j + 1))), (0, .ref x), (1, .ref (ad (4 + i))), (2, .int (nI b))] → W p l e ({ frames := 6, cells := 0, slots := 0, locals := 138 }) s m [.ref x, .ref (ad (4 + i)), .int (nI b)].toArray below meth c H locs (0) (0) (MQ below (QI G (fun r M' => r = nI (cnt (fun j => fRefs (zE (itr (kRb i (nI b)) j (kRm0 i b z)) (sL i 1) j) (nI b)) (zN z (sL i 1)) + 1) ∧ cTo G dce x ad M y z M' (kRmA i b z)) A) [.ref x, .ref (ad (4 + i)), .int (nI b)].toArray s (0) (0) A) (F0 m 21 ls []) := by
    intro d
    induction d with
    | zero => intro j z1 Mi H locs ls h1 h2; exact absurd h2 (by omega)
    | succ d ih =>
      intro j z1 Mi H locs ls hj1 hj2 hz1 hto hw hS hl
      obtain ⟨y1, ho, hc1, hs1⟩ := hto
      have hn1 : zN z1 = zN zb := by rw [hz1]; exact itr_N (kRb_N i (nI b)) j zb
      have hn1 : zN z1 = zN z := hn1.trans hnb
      have hjn : zN z (sL i 1) ≤ 1024 := hcw.n (by unfold sL; omega)
      have hs9 : Mi (ad (4 + i)) = some (.inr (5, [.ref (ad (12 + 2 * i)), .ref (ad (13 + 2 * i)), .ref (ad (40 + i))])) := (hc1.1.2.2.2 i hi).1
      have hx7 : Mi x = some (.inr (7, [.ref (ad 0), .ref (ad 1), .ref (ad 2), .ref (ad 3)])) := hc1.1.1
      have hcj : cnt (fun j => fRefs (zE (itr (kRb i (nI b)) j (kRm0 i b z)) (sL i 1) j) (nI b)) (j + 1) = cnt (fun j => fRefs (zE (itr (kRb i (nI b)) j (kRm0 i b z)) (sL i 1) j) (nI b)) j + (if fRefs (zE z1 (sL i 1) j) (nI b) = true then 1 else 0) := by rw [hz1, hzb]; rfl
      refine lv_iload hx hb dX6_removeAuthor_21 (lv_at hl 0 rfl) ?_
      refine lv_aload_n hx hb dX6_removeAuthor_23 rfl (lv_at hl 3 rfl) ?_
      refine lv_iconst (v := 1) hx hb dX6_removeAuthor_24 (by decide) ?_
      refine m_callVi X (ci := 5) rfl hs9 hK hw hZ hS hA (As := [.int 1]) (rest := [.int (nI j)]) (c_sizeOfK l G dce _ Mi x ad y1 z1 hc1 i 1 hi (by decide) 1 (by decide)) (cwV 1 hts gX6_removeAuthor_X4_sizeOf rfl rfl rfl (by decide +kernel) ⟨Nat.le_of_ble_eq_true rfl, Nat.le_of_ble_eq_true rfl⟩) rfl hl.1 rfl (Nat.le_of_ble_eq_true rfl) dX6_removeAuthor_25 (Nat.le_of_ble_eq_true rfl) (Nat.le_of_ble_eq_true rfl) (fun r6 M5 H locs hp hw hS hz hk => ?_)
      rw [hp.2] at hw
      rw [hp.1, hn1]
      refine lv_icmp_ge (tgt := 61) hx hb dX6_removeAuthor_28 (by decide) (fun c_28 => ?_) (fun c_28 => ?_)
      · have hkn : (zN z (sL i 1)) ≤ j := (nI_leI (by omega) (by omega)).mp c_28
        refine lv_iload_n hx hb dX6_removeAuthor_61 rfl (lv_at hl 1 rfl) ?_
        have hjj : j = (zN z (sL i 1)) := by omega
        rw [hjj] at hz1
        have hzz : z1 = kRmA i b z := by
          rw [hz1, hzb]
          rfl
        exact m_iret X hK hw hS ⟨by rw [hjj], by rw [← hzz]; exact cTo.tr rfl hsA (cTo.tr hob hsb ⟨y1, ho, hc1, hs1⟩)⟩ (by omega) (by omega) dX6_removeAuthor_62
      · have hkl : j < (zN z (sL i 1)) := Nat.lt_of_not_le (fun q => c_28 (nI_le q (by omega)))
        refine lv_aload_n hx hb dX6_removeAuthor_31 rfl (lv_at hl 3 rfl) ?_
        refine lv_iconst (v := 1) hx hb dX6_removeAuthor_32 (by decide) ?_
        refine lv_iload hx hb dX6_removeAuthor_33 (lv_at hl 0 rfl) ?_
        refine m_callVr X (ci := 5) rfl hs9 hK hw hZ hS hA (As := [.int 1, .int (nI j)]) (rest := []) (c_entityAtK l G dce _ Mi x ad y1 z1 hc1 i 1 hi (by decide) (nI j) 1 (by decide)) (cwV 2 hts gX6_removeAuthor_X4_entityAt rfl rfl rfl (by decide +kernel) ⟨Nat.le_of_ble_eq_true rfl, Nat.le_of_ble_eq_true rfl⟩) rfl hl.1 rfl (Nat.le_of_ble_eq_true rfl) dX6_removeAuthor_35 (Nat.le_of_ble_eq_true rfl) (Nat.le_of_ble_eq_true rfl) (fun r8 M7 H locs hp hw hS hz hk => ?_)
        rw [hp.2] at hw
        rw [hp.1, eA_in (by rw [hn1]; exact hjn) (by rw [hn1]; exact hkl)]
        have hen : Mi ((yO y1 (sL i 1) j)) = some (eE (zE z1 (sL i 1) j)) := hc1.ent (by unfold sL; omega) (by unfold sL; omega) (by rw [hn1]; exact hkl)
        obtain ⟨b1, b2, b3, nm, rf, sn, sr, sv, hev⟩ : ∃ b1 b2 b3 nm rf sn sr sv, (zE z1 (sL i 1) j) = (b1, b2, b3, nm, rf, sn, sr, sv) := ⟨_, _, _, _, _, _, _, _, rfl⟩
        have hec : Mi ((yO y1 (sL i 1) j)) = some (.inr (1, [.int (bI b1), .int (bI b2), .int (bI b3), .int nm, .int rf, .int sn, .int sr, .int sv])) := by rw [hen, hev]; rfl
        refine lv_iload_n hx hb dX6_removeAuthor_38 rfl (lv_at hl 4 rfl) ?_
        refine m_callVi X (ci := 1) rfl hec hK hw hZ hS hA (As := [.int (nI b)]) (rest := []) (c_X0_isLiveAndRefersTo l G dce _ Mi (yO y1 (sL i 1) j) (zE z1 (sL i 1) j) hen (nI b)) (cwV 1 hts gX6_removeAuthor_X0_isLiveAndRefersTo rfl rfl rfl (by decide +kernel) ⟨Nat.le_of_ble_eq_true rfl, Nat.le_of_ble_eq_true rfl⟩) rfl hl.1 rfl (Nat.le_of_ble_eq_true rfl) dX6_removeAuthor_39 (Nat.le_of_ble_eq_true rfl) (Nat.le_of_ble_eq_true rfl) (fun r10 M9 H locs hp hw hS hz hk => ?_)
        rw [hp.2] at hw
        rw [hp.1]
        refine lv_if_eq (tgt := 55) hx hb dX6_removeAuthor_42 (by decide) (fun c_42 => ?_) (fun c_42 => ?_)
        · have hF : kRb i (nI b) j z1 = z1 := if_neg (bI_f c_42)
          rw [if_neg (bI_f c_42)] at hcj
          have hcj := hcj.trans (Nat.add_zero _)
          rw [← hcj] at hl
          refine lv_iinc (v := (nI (j + 1))) (lv' := [(4, .int (nI (j + 1))), (3, .int (nI (cnt (fun j => fRefs (zE (itr (kRb i (nI b)) j (kRm0 i b z)) (sL i 1) j) (nI b)) (j + 1) + 1))), (0, .ref x), (1, .ref (ad (4 + i))), (2, .int (nI b))]) hx hb dX6_removeAuthor_55 hl (k := 0) rfl (nI_1 _) (by decide) rfl (fun ls hl => ?_)
          refine lv_goto (tgt := 21) hx hb dX6_removeAuthor_58 (by decide) ?_
          have hz2 : z1 = itr (kRb i (nI b)) (j + 1) zb := by
            show _ = (kRb i (nI b)) j (itr (kRb i (nI b)) j zb)
            rw [← hz1]
            exact (hF).symm
          exact ih (j + 1) z1 Mi H locs ls (by omega) (by omega) hz2 (⟨y1, ho, hc1, hs1⟩) hw hS (lv_sub hl [0, 1, 2, 3, 4] rfl)
        · refine lv_aload_n hx hb dX6_removeAuthor_45 rfl (lv_at hl 2 rfl) ?_
          refine lv_aload_n hx hb dX6_removeAuthor_46 rfl (lv_at hl 3 rfl) ?_
          refine lv_iload hx hb dX6_removeAuthor_47 (lv_at hl 0 rfl) ?_
          refine m_callVv X (ci := 7) rfl hx7 hK hw hZ hS hA (As := [.ref (ad (4 + i)), .int (nI j)]) (rest := []) (c_removeBook l G dce _ Mi x ad y1 z1 hc1 i hi (fun i k h1 h2 => by rw [hn1]; exact heq i k h1 h2) j (by rw [hn1]; exact hkl)) (cwV 2 hts gX6_removeAuthor_X6_removeBook rfl rfl rfl (by decide +kernel) ⟨Nat.le_of_ble_eq_true rfl, Nat.le_of_ble_eq_true rfl⟩) rfl hl.1 rfl (Nat.le_of_ble_eq_true rfl) dX6_removeAuthor_49 (Nat.le_of_ble_eq_true rfl) (Nat.le_of_ble_eq_true rfl) (fun M11 H locs hp hw hS hz hk => ?_)
          have hF : kRb i (nI b) j z1 = kRmB i j z1 := if_pos (bI_t c_42)
          rw [if_pos (bI_t c_42)] at hcj
          refine lv_iinc (v := (nI ((cnt (fun j => fRefs (zE (itr (kRb i (nI b)) j (kRm0 i b z)) (sL i 1) j) (nI b)) j + 1) + 1))) (lv' := [(3, .int (nI ((cnt (fun j => fRefs (zE (itr (kRb i (nI b)) j (kRm0 i b z)) (sL i 1) j) (nI b)) j + 1) + 1))), (4, .int (nI j)), (0, .ref x), (1, .ref (ad (4 + i))), (2, .int (nI b))]) hx hb dX6_removeAuthor_52 hl (k := 1) rfl (nI_1 _) (by decide) rfl (fun ls hl => ?_)
          rw [← hcj] at hl
          refine lv_iinc (v := (nI (j + 1))) (lv' := [(4, .int (nI (j + 1))), (3, .int (nI (cnt (fun j => fRefs (zE (itr (kRb i (nI b)) j (kRm0 i b z)) (sL i 1) j) (nI b)) (j + 1) + 1))), (0, .ref x), (1, .ref (ad (4 + i))), (2, .int (nI b))]) hx hb dX6_removeAuthor_55 hl (k := 1) rfl (nI_1 _) (by decide) rfl (fun ls hl => ?_)
          refine lv_goto (tgt := 21) hx hb dX6_removeAuthor_58 (by decide) ?_
          have hz2 : (kRmB i j z1) = itr (kRb i (nI b)) (j + 1) zb := by
            show _ = (kRb i (nI b)) j (itr (kRb i (nI b)) j zb)
            rw [← hz1]
            exact (hF).symm
          exact ih (j + 1) (kRmB i j z1) M11 H locs ls (by omega) (by omega) hz2 (cTo.tr ho hs1 hp) hw hS (lv_sub hl [0, 1, 2, 3, 4] rfl)
  exact loop ((zN z (sL i 1)) + 1) 0 zb M4 _ _ ls (Nat.zero_le _) (by omega) rfl (cTo.rf hcb) hw hS (lv_sub hl [0, 1, 2, 3, 4] rfl)
theorem c_removeBookK (l : Launch) (G : gG) (dce sz : Nat) (M : gM) (x : Nat) (ad : Nat → Nat) (y : cY) (z : cZ) (hcw : CW G dce x ad M y z) (i : Nat) (hi : i < 3) (heq : cEq z) (b : Nat) (hbk : b < zN z (sL i 1)) (ky : Int32) (hky : ky = nI b) : mV l yX6_removeBook wsX6_removeBook ({ frames := 5, cells := 0, slots := 0, locals := 114 }) G dce sz M [.ref x, .ref (ad (4 + i)), .int ky] (fun M' => cTo G dce x ad M y z M' (kRmB i b z)) (0) (0) := by
  subst hky
  exact c_removeBook l G dce sz M x ad y z hcw i hi heq b hbk
theorem c_removeAuthorK (l : Launch) (G : gG) (dce sz : Nat) (M : gM) (x : Nat) (ad : Nat → Nat) (y : cY) (z : cZ) (hcw : CW G dce x ad M y z) (i : Nat) (hi : i < 3) (heq : cEq z) (b : Nat) (hbk : b < zN z (sL i 0)) (ky : Int32) (hky : ky = nI b) : mI l yX6_removeAuthor wsX6_removeAuthor ({ frames := 6, cells := 0, slots := 0, locals := 138 }) G dce sz M [.ref x, .ref (ad (4 + i)), .int ky] (fun r M' => r = nI (cnt (fun j => fRefs (zE (itr (kRb i (nI b)) j (kRm0 i b z)) (sL i 1) j) (nI b)) (zN z (sL i 1)) + 1) ∧ cTo G dce x ad M y z M' (kRmA i b z)) (0) (0) := by
  subst hky
  exact c_removeAuthor l G dce sz M x ad y z hcw i hi heq b hbk
