def sOK (si : Int32) : Bool := !decide (si < 0) && decide (si < 3)
def nOK (nm : Int32) : Bool := !decide (nm < 0) && decide (nm ≤ 1000)
def kOK (kd : Int32) : Bool := decide (kd = 0) || decide (kd = 1)
def xNm : List String := ["java/lang/RuntimeException", "java/lang/Exception"]
theorem xng_IAE : ∀ w ∈ (vx_atS RX6 102 "java/lang/IllegalArgumentException" xNm).filter (fun w => !goodWord w), w ∈ [Cond.castable "java/lang/IllegalArgumentException" "java/lang/IllegalArgumentException", .declares ⟨"java/lang/RuntimeException", "<init>", "(Ljava/lang/String;)V"⟩, .declares ⟨"java/lang/Exception", "<init>", "(Ljava/lang/String;)V"⟩, .declares ⟨"java/lang/Throwable", "<init>", "(Ljava/lang/String;)V"⟩] := by decide +kernel
theorem xgd_IAE : ∀ w ∈ Cond.classLink RX6 98 "java/lang/IllegalArgumentException" :: Cond.initialized "java/lang/IllegalArgumentException" :: vx_atS RX6 102 "java/lang/IllegalArgumentException" xNm, vx_ot w = true := by decide +kernel
def xIAE : String := "java/lang/IllegalArgumentException"
theorem xng_ISE : ∀ w ∈ (vx_atS RX6 132 "java/lang/IllegalStateException" xNm).filter (fun w => !goodWord w), w ∈ [Cond.castable "java/lang/IllegalStateException" "java/lang/IllegalStateException", .declares ⟨"java/lang/RuntimeException", "<init>", "(Ljava/lang/String;)V"⟩, .declares ⟨"java/lang/Exception", "<init>", "(Ljava/lang/String;)V"⟩, .declares ⟨"java/lang/Throwable", "<init>", "(Ljava/lang/String;)V"⟩] := by decide +kernel
theorem xgd_ISE : ∀ w ∈ Cond.classLink RX6 128 "java/lang/IllegalStateException" :: Cond.initialized "java/lang/IllegalStateException" :: vx_atS RX6 132 "java/lang/IllegalStateException" xNm, vx_ot w = true := by decide +kernel
def xISE : String := "java/lang/IllegalStateException"
theorem xng_IOB : ∀ w ∈ (vx_atS RX6 181 "java/lang/IndexOutOfBoundsException" xNm).filter (fun w => !goodWord w), w ∈ [Cond.castable "java/lang/IndexOutOfBoundsException" "java/lang/IndexOutOfBoundsException", .declares ⟨"java/lang/RuntimeException", "<init>", "(Ljava/lang/String;)V"⟩, .declares ⟨"java/lang/Exception", "<init>", "(Ljava/lang/String;)V"⟩, .declares ⟨"java/lang/Throwable", "<init>", "(Ljava/lang/String;)V"⟩] := by decide +kernel
theorem xgd_IOB : ∀ w ∈ Cond.classLink RX6 177 "java/lang/IndexOutOfBoundsException" :: Cond.initialized "java/lang/IndexOutOfBoundsException" :: vx_atS RX6 181 "java/lang/IndexOutOfBoundsException" xNm, vx_ot w = true := by decide +kernel
def xIOB : String := "java/lang/IndexOutOfBoundsException"
set_option maxHeartbeats 4000000 in
set_option maxRecDepth 100000 in
theorem c_X6_tableOf (l : Launch) (G : gG) (dce sz : Nat) (M : gM) (x ta tb j sa : Nat) (hv : M x = some (oX ta tb j sa)) (kd : Int32) : mR l yX6_tableOf wsX6_tableOf ({ frames := 0, cells := 0, slots := 0, locals := 0 }) G dce sz M [.ref x, .int kd] (fun r M' => r = (if kd = 0 then ta else tb) ∧ M' = M) (0) (0) := by
  have hv : M x = some (.inr (7, [.ref ta, .ref tb, .ref j, .ref sa])) := hv
  refine wMet (Qc := QR G _) (cc := cX6_tableOf) (maxL := 2) (ret := (some (.object "ObjectMapper$Table"))) (by decide) rfl (Nat.le_of_ble_eq_true rfl) ?_
  intro p e s m below meth c A ls X hnm hw hK hZ hA hS hsz eA hl
  obtain ⟨hx, hb, hr, hts, hown, hlk, hml⟩ := id X
  have hl : lv_has ls 2 [(0, .ref x), (1, .int kd)] := hl
  have iX6 : ∀ w ∈ wsX60, w ∈ wsX6_tableOf := by decide +kernel
  refine lv_iload_n hx hb dX6_tableOf_0 rfl (lv_at hl 1 rfl) ?_
  refine lv_if_ne (tgt := 11) hx hb dX6_tableOf_1 (by decide) (fun c_1 => ?_) (fun c_1 => ?_)
  · refine lv_aload_n hx hb dX6_tableOf_11 rfl (lv_at hl 0 rfl) ?_
    refine m_get X iX6 hK hw hv rfl 1 (by decide) (ref := "ObjectMapper") (by decide +kernel) (Or.inl rfl) rfl dX6_tableOf_12 ?_
    exact m_aret X (Or.inl ⟨_, rfl⟩) hK hw hS (by refine ⟨?_, rfl⟩; simp_all) (by omega) (by omega) dX6_tableOf_15
  · refine lv_aload_n hx hb dX6_tableOf_4 rfl (lv_at hl 0 rfl) ?_
    refine m_get X iX6 hK hw hv rfl 0 (by decide) (ref := "ObjectMapper") (by decide +kernel) (Or.inl rfl) rfl dX6_tableOf_5 ?_
    refine lv_goto (tgt := 15) hx hb dX6_tableOf_8 (by decide) ?_
    exact m_aret X (Or.inl ⟨_, rfl⟩) hK hw hS (by refine ⟨?_, rfl⟩; simp_all) (by omega) (by omega) dX6_tableOf_15
set_option maxHeartbeats 4000000 in
set_option maxRecDepth 100000 in
theorem c_X6_otherKind (l : Launch) (G : gG) (dce sz : Nat) (M : gM) (kd : Int32) : mI l yX6_otherKind wsX6_otherKind ({ frames := 0, cells := 0, slots := 0, locals := 0 }) G dce sz M [.int kd] (fun r M' => r = (if kd = 0 then 1 else 0) ∧ M' = M) (0) (0) := by
  refine wMet (Qc := QI G _) (cc := cX6_otherKind) (maxL := 1) (ret := (some .int)) (by decide) rfl (Nat.le_of_ble_eq_true rfl) ?_
  intro p e s m below meth c A ls X hnm hw hK hZ hA hS hsz eA hl
  obtain ⟨hx, hb, hr, hts, hown, hlk, hml⟩ := id X
  have hl : lv_has ls 1 [(0, .int kd)] := hl
  refine lv_iload_n hx hb dX6_otherKind_0 rfl (lv_at hl 0 rfl) ?_
  refine lv_if_ne (tgt := 8) hx hb dX6_otherKind_1 (by decide) (fun c_1 => ?_) (fun c_1 => ?_)
  · refine lv_iconst (v := 0) hx hb dX6_otherKind_8 (by decide) ?_
    exact m_iret X hK hw hS (by refine ⟨?_, rfl⟩; simp_all) (by omega) (by omega) dX6_otherKind_9
  · refine lv_iconst (v := 1) hx hb dX6_otherKind_4 (by decide) ?_
    refine lv_goto (tgt := 9) hx hb dX6_otherKind_5 (by decide) ?_
    exact m_iret X hK hw hS (by refine ⟨?_, rfl⟩; simp_all) (by omega) (by omega) dX6_otherKind_9
set_option maxHeartbeats 4000000 in
set_option maxRecDepth 100000 in
theorem c_X6_checkKind (l : Launch) (G : gG) (dce sz : Nat) (M : gM) (hlt : l.stackTraces = false) (kd : Int32) : xV l yX6_checkKind wsX6_checkKind ({ frames := 6, cells := 1, slots := 6, locals := 82 }) G dce sz M [.int kd] (fun M' => kOK kd = true ∧ M' = M) (fun E M' => E = xIAE ∧ kOK kd = false ∧ M' = M) (1) (6) := by
  refine xMet (Qc := QV G _) (XC := QX G _) (cc := cX6_checkKind) (maxL := 1) (ret := none) (by decide) rfl (Nat.le_of_ble_eq_true rfl) ?_
  intro p e s m below meth c A ls X hno hnm hw hK hZ hA hS hsz eA hl
  obtain ⟨hx, hb, hr, hts, hown, hlk, hml⟩ := id X
  have hl : lv_has ls 1 [(0, .int kd)] := hl
  refine lv_iload_n hx hb dX6_checkKind_0 rfl (lv_at hl 0 rfl) ?_
  refine lv_if_eq (tgt := 19) hx hb dX6_checkKind_1 (by decide) (fun c_1 => ?_) (fun c_1 => ?_)
  · refine vx_ret ?_
    exact m_vret X hK hw hS (by refine ⟨?_, rfl⟩; simp_all [kOK]) (by omega) (by omega) dX6_checkKind_19
  · refine lv_iload_n hx hb dX6_checkKind_4 rfl (lv_at hl 0 rfl) ?_
    refine lv_iconst (v := 1) hx hb dX6_checkKind_5 (by decide) ?_
    refine lv_icmp_eq (tgt := 19) hx hb dX6_checkKind_6 (by decide) (fun c_6 => ?_) (fun c_6 => ?_)
    · refine vx_ret ?_
      exact m_vret X hK hw hS (by refine ⟨?_, rfl⟩; simp_all [kOK]) (by omega) (by omega) dX6_checkKind_19
    · exact m_throwS X hno hlt rfl (cls := "java/lang/IllegalArgumentException") (text := "no such kind") (names := xNm) (by decide +kernel) (by decide +kernel) (by decide +kernel) (by decide +kernel) (by decide) (fun w h => List.mem_cons_of_mem _ (List.mem_append_right _ h)) xng_IAE (by decide) xgd_IAE hK hw hZ hS hl.1 dX6_checkKind_9 dX6_checkKind_12 dX6_checkKind_13 dX6_checkKind_15 dX6_checkKind_18 (Nat.le_of_ble_eq_true rfl) (Nat.le_of_ble_eq_true rfl) (Nat.le_of_ble_eq_true rfl) (Nat.le_of_ble_eq_true rfl) (by omega) (by omega) (⟨rfl, by simp_all [kOK], rfl⟩)
set_option maxHeartbeats 4000000 in
set_option maxRecDepth 100000 in
theorem c_X6_checkRangeOfName (l : Launch) (G : gG) (dce sz : Nat) (M : gM) (hlt : l.stackTraces = false) (nm : Int32) : xV l yX6_checkRangeOfName wsX6_checkRangeOfName ({ frames := 6, cells := 1, slots := 6, locals := 82 }) G dce sz M [.int nm] (fun M' => nOK nm = true ∧ M' = M) (fun E M' => E = xIAE ∧ nOK nm = false ∧ M' = M) (1) (6) := by
  refine xMet (Qc := QV G _) (XC := QX G _) (cc := cX6_checkRangeOfName) (maxL := 1) (ret := none) (by decide) rfl (Nat.le_of_ble_eq_true rfl) ?_
  intro p e s m below meth c A ls X hno hnm hw hK hZ hA hS hsz eA hl
  obtain ⟨hx, hb, hr, hts, hown, hlk, hml⟩ := id X
  have hl : lv_has ls 1 [(0, .int nm)] := hl
  refine lv_iload_n hx hb dX6_checkRangeOfName_0 rfl (lv_at hl 0 rfl) ?_
  refine lv_if_lt (tgt := 11) hx hb dX6_checkRangeOfName_1 (by decide) (fun c_1 => ?_) (fun c_1 => ?_)
  · exact m_throwS X hno hlt rfl (cls := "java/lang/IllegalArgumentException") (text := "name out of range") (names := xNm) (by decide +kernel) (by decide +kernel) (by decide +kernel) (by decide +kernel) (by decide) (fun w h => List.mem_cons_of_mem _ (List.mem_append_right _ h)) xng_IAE (by decide) xgd_IAE hK hw hZ hS hl.1 dX6_checkRangeOfName_11 dX6_checkRangeOfName_14 dX6_checkRangeOfName_15 dX6_checkRangeOfName_17 dX6_checkRangeOfName_20 (Nat.le_of_ble_eq_true rfl) (Nat.le_of_ble_eq_true rfl) (Nat.le_of_ble_eq_true rfl) (Nat.le_of_ble_eq_true rfl) (by omega) (by omega) (⟨rfl, by unfold nOK; first | (rw [decide_eq_true c_1]; rfl) | (rw [decide_eq_false c_8]; exact Bool.and_false _), rfl⟩)
  · refine lv_iload_n hx hb dX6_checkRangeOfName_4 rfl (lv_at hl 0 rfl) ?_
    refine lv_sipush (v := 1000) hx hb dX6_checkRangeOfName_5 (by decide) ?_
    refine lv_icmp_le (tgt := 21) hx hb dX6_checkRangeOfName_8 (by decide) (fun c_8 => ?_) (fun c_8 => ?_)
    · refine vx_ret ?_
      exact m_vret X hK hw hS (by refine ⟨?_, rfl⟩; unfold nOK; rw [decide_eq_false c_1, decide_eq_true c_8]; rfl) (by omega) (by omega) dX6_checkRangeOfName_21
    · exact m_throwS X hno hlt rfl (cls := "java/lang/IllegalArgumentException") (text := "name out of range") (names := xNm) (by decide +kernel) (by decide +kernel) (by decide +kernel) (by decide +kernel) (by decide) (fun w h => List.mem_cons_of_mem _ (List.mem_append_right _ h)) xng_IAE (by decide) xgd_IAE hK hw hZ hS hl.1 dX6_checkRangeOfName_11 dX6_checkRangeOfName_14 dX6_checkRangeOfName_15 dX6_checkRangeOfName_17 dX6_checkRangeOfName_20 (Nat.le_of_ble_eq_true rfl) (Nat.le_of_ble_eq_true rfl) (Nat.le_of_ble_eq_true rfl) (Nat.le_of_ble_eq_true rfl) (by omega) (by omega) (⟨rfl, by unfold nOK; first | (rw [decide_eq_true c_1]; rfl) | (rw [decide_eq_false c_8]; exact Bool.and_false _), rfl⟩)
set_option maxHeartbeats 4000000 in
set_option maxRecDepth 100000 in
theorem c_X6_sessionAt (l : Launch) (G : gG) (dce sz : Nat) (M : gM) (hlt : l.stackTraces = false) (x ta tb j sa : Nat) (hv : M x = some (oX ta tb j sa)) (f : Nat → Option Nat) (ss : Nat → Nat) (hsa : M sa = some (.inl (G.2 4, 3, .inr (.inr (.inr (.inr f)))))) (hf : ∀ i, i < 3 → f i = some (ss i)) (si : Int32) : xR l yX6_sessionAt wsX6_sessionAt ({ frames := 6, cells := 1, slots := 6, locals := 82 }) G dce sz M [.ref x, .int si] (fun r M' => (∃ i : Nat, i < 3 ∧ si = nI i ∧ r = ss i) ∧ sOK si = true ∧ M' = M) (fun E M' => E = xIOB ∧ sOK si = false ∧ M' = M) (1) (6) := by
  have hv : M x = some (.inr (7, [.ref ta, .ref tb, .ref j, .ref sa])) := hv
  refine xMet (Qc := QR G _) (XC := QX G _) (cc := cX6_sessionAt) (maxL := 2) (ret := (some (.object "ObjectMapper$Session"))) (by decide) rfl (Nat.le_of_ble_eq_true rfl) ?_
  intro p e s m below meth c A ls X hno hnm hw hK hZ hA hS hsz eA hl
  obtain ⟨hx, hb, hr, hts, hown, hlk, hml⟩ := id X
  have hl : lv_has ls 2 [(0, .ref x), (1, .int si)] := hl
  have iX6 : ∀ w ∈ wsX60, w ∈ wsX6_sessionAt := by decide +kernel
  refine lv_iload_n hx hb dX6_sessionAt_0 rfl (lv_at hl 1 rfl) ?_
  refine lv_if_lt (tgt := 13) hx hb dX6_sessionAt_1 (by decide) (fun c_1 => ?_) (fun c_1 => ?_)
  · exact m_throwS X hno hlt rfl (cls := "java/lang/IndexOutOfBoundsException") (text := "no such session") (names := xNm) (by decide +kernel) (by decide +kernel) (by decide +kernel) (by decide +kernel) (by decide) (fun w h => List.mem_cons_of_mem _ (List.mem_append_right _ h)) xng_IOB (by decide) xgd_IOB hK hw hZ hS hl.1 dX6_sessionAt_13 dX6_sessionAt_16 dX6_sessionAt_17 dX6_sessionAt_19 dX6_sessionAt_22 (Nat.le_of_ble_eq_true rfl) (Nat.le_of_ble_eq_true rfl) (Nat.le_of_ble_eq_true rfl) (Nat.le_of_ble_eq_true rfl) (by omega) (by omega) (⟨rfl, by unfold sOK; first | (rw [decide_eq_true c_1]; rfl) | (rw [show decide (si < 3) = false from decide_eq_false c_10]; exact Bool.and_false _), rfl⟩)
  · refine lv_iload_n hx hb dX6_sessionAt_4 rfl (lv_at hl 1 rfl) ?_
    refine lv_aload_n hx hb dX6_sessionAt_5 rfl (lv_at hl 0 rfl) ?_
    refine m_get X iX6 hK hw hv rfl 3 (by decide) (ref := "ObjectMapper") (by decide +kernel) (Or.inl rfl) rfl dX6_sessionAt_6 ?_
    refine m_alen X hK hw hsa 4 rfl dX6_sessionAt_9 ?_
    refine W.eq (g2 := F0 m 10 ls [.int (nI 3), .int si]) rfl ?_
    refine lv_icmp_lt (tgt := 23) hx hb dX6_sessionAt_10 (by decide) (fun c_10 => ?_) (fun c_10 => ?_)
    · refine lv_aload_n hx hb dX6_sessionAt_23 rfl (lv_at hl 0 rfl) ?_
      refine m_get X iX6 hK hw hv rfl 3 (by decide) (ref := "ObjectMapper") (by decide +kernel) (Or.inl rfl) rfl dX6_sessionAt_24 ?_
      refine lv_iload_n hx hb dX6_sessionAt_27 rfl (lv_at hl 1 rfl) ?_
      obtain ⟨i, hi, ei⟩ : ∃ i : Nat, i < 3 ∧ si = nI i := by
        obtain ⟨i, h1, h2⟩ := nI_of c_1
        refine ⟨i, ?_, h2⟩
        rw [h2] at c_10
        exact (nI_ltI h1 (by decide)).mp c_10
      refine m_aald X hK hw 4 hsa rfl (v := ss i) (by rw [ei, nI_clamp (by omega)]; exact hf i hi) (by rw [ei]; exact vp_in_nI hi (by decide)) dX6_sessionAt_28 ?_
      refine vx_ret ?_
      exact m_aret X (Or.inl ⟨_, rfl⟩) hK hw hS (by refine ⟨⟨i, hi, ei, rfl⟩, ?_, rfl⟩; unfold sOK; rw [decide_eq_false c_1, show decide (si < 3) = true from decide_eq_true c_10]; rfl) (by omega) (by omega) dX6_sessionAt_29
    · exact m_throwS X hno hlt rfl (cls := "java/lang/IndexOutOfBoundsException") (text := "no such session") (names := xNm) (by decide +kernel) (by decide +kernel) (by decide +kernel) (by decide +kernel) (by decide) (fun w h => List.mem_cons_of_mem _ (List.mem_append_right _ h)) xng_IOB (by decide) xgd_IOB hK hw hZ hS hl.1 dX6_sessionAt_13 dX6_sessionAt_16 dX6_sessionAt_17 dX6_sessionAt_19 dX6_sessionAt_22 (Nat.le_of_ble_eq_true rfl) (Nat.le_of_ble_eq_true rfl) (Nat.le_of_ble_eq_true rfl) (Nat.le_of_ble_eq_true rfl) (by omega) (by omega) (⟨rfl, by unfold sOK; first | (rw [decide_eq_true c_1]; rfl) | (rw [show decide (si < 3) = false from decide_eq_false c_10]; exact Bool.and_false _), rfl⟩)
set_option maxHeartbeats 4000000 in
set_option maxRecDepth 100000 in
theorem c_X6_checkLive_out (l : Launch) (G : gG) (dce sz : Nat) (M : gM) (hlt : l.stackTraces = false) (hs la lb nb : Nat) (hv : M hs = some (oS la lb nb)) (kd : Int32) (mc n : Int32) (ex : Nat) (hli : M (if kd = 0 then la else lb) = some (oL mc ex n)) (ky : Int32) (hout : ky < 0 ∨ n ≤ ky) (hnb : M nb = some (eE v0E)) : xV l yX6_checkLive wsX6_checkLive ({ frames := 6, cells := 1, slots := 6, locals := 87 }) G dce sz M [.ref hs, .int kd, .int ky] (fun _ => False) (fun E M' => E = xISE ∧ M' = M) (1) (6) := by
  refine xMet (Qc := QV G _) (XC := QX G _) (cc := cX6_checkLive) (maxL := 3) (ret := none) (by decide) rfl (Nat.le_of_ble_eq_true rfl) ?_
  intro p e s m below meth c A ls X hno hnm hw hK hZ hA hS hsz eA hl
  obtain ⟨hx, hb, hr, hts, hown, hlk, hml⟩ := id X
  have hl : lv_has ls 3 [(0, .ref hs), (1, .int kd), (2, .int ky)] := hl
  refine lv_aload_n hx hb dX6_checkLive_0 rfl (lv_at hl 0 rfl) ?_
  refine lv_iload_n hx hb dX6_checkLive_1 rfl (lv_at hl 1 rfl) ?_
  refine lv_iload_n hx hb dX6_checkLive_2 rfl (lv_at hl 2 rfl) ?_
  refine m_callVr X (ci := 5) rfl hv hK hw hZ hS hA (As := [.int kd, .int ky]) (rest := []) (c_X4_entityAt_out l G dce _ M hs la lb nb hv kd mc n ex hli ky hout) (cwV 2 hts gX6_checkLive_X4_entityAt rfl rfl rfl (by decide +kernel) ⟨Nat.le_of_ble_eq_true rfl, Nat.le_of_ble_eq_true rfl⟩) rfl hl.1 rfl (Nat.le_of_ble_eq_true rfl) dX6_checkLive_3 (Nat.le_of_ble_eq_true rfl) (Nat.le_of_ble_eq_true rfl) (fun r2 M1 H locs hp hw hS hz hk => ?_)
  rw [hp.2] at hw
  rw [hp.1]
  refine m_callVi X (ci := 1) rfl hnb hK hw hZ hS hA (As := []) (rest := []) (c_X0_isLive l G dce _ M nb v0E hnb) (cwV 0 hts gX6_checkLive_X0_isLive rfl rfl rfl (by decide +kernel) ⟨Nat.le_of_ble_eq_true rfl, Nat.le_of_ble_eq_true rfl⟩) rfl hl.1 rfl (Nat.le_of_ble_eq_true rfl) dX6_checkLive_6 (Nat.le_of_ble_eq_true rfl) (Nat.le_of_ble_eq_true rfl) (fun r4 M3 H locs hp hw hS hz hk => ?_)
  rw [hp.2] at hw
  rw [hp.1]
  refine lv_if_ne (tgt := 22) hx hb dX6_checkLive_9 (by decide) (fun c_9 => ?_) (fun c_9 => ?_)
  · exact (by exfalso; exact c_9 (by decide))
  · exact m_throwS X hno hlt rfl (cls := "java/lang/IllegalStateException") (text := "object not known or removed") (names := xNm) (by decide +kernel) (by decide +kernel) (by decide +kernel) (by decide +kernel) (by decide) (fun w h => List.mem_cons_of_mem _ (List.mem_append_right _ h)) xng_ISE (by decide) xgd_ISE hK hw hZ hS hl.1 dX6_checkLive_12 dX6_checkLive_15 dX6_checkLive_16 dX6_checkLive_18 dX6_checkLive_21 (Nat.le_of_ble_eq_true rfl) (Nat.le_of_ble_eq_true rfl) (Nat.le_of_ble_eq_true rfl) (Nat.le_of_ble_eq_true rfl) (by omega) (by omega) (⟨rfl, rfl⟩)
set_option maxHeartbeats 4000000 in
set_option maxRecDepth 100000 in
theorem c_X6_checkedRow_out (l : Launch) (G : gG) (dce sz : Nat) (M : gM) (hlt : l.stackTraces = false) (x ta tb j sa : Nat) (hv : M x = some (oX ta tb j sa)) (kd ky : Int32) (lp nr : Nat) (mc n : Int32) (ex : Nat) (hta : M (if kd = 0 then ta else tb) = some (oT lp nr)) (hli : M lp = some (oL mc ex n)) (hout : ky < 0 ∨ n ≤ ky) (hnr : M nr = some (eR v0R)) : xR l yX6_checkedRow wsX6_checkedRow ({ frames := 7, cells := 2, slots := 12, locals := 102 }) G dce sz M [.ref x, .int kd, .int ky] (fun _ _ => False) (fun E M' => (E = xIAE ∧ kOK kd = false ∨ E = xIOB ∧ kOK kd = true) ∧ M' = M) (2) (12) := by
  have hv : M x = some (.inr (7, [.ref ta, .ref tb, .ref j, .ref sa])) := hv
  have hta : M (if kd = 0 then ta else tb) = some (.inr (6, [.ref lp, .ref nr])) := hta
  refine xMet (Qc := QR G _) (XC := QX G _) (cc := cX6_checkedRow) (maxL := 4) (ret := (some (.object "ObjectMapper$Row"))) (by decide) rfl (Nat.le_of_ble_eq_true rfl) ?_
  intro p e s m below meth c A ls X hno hnm hw hK hZ hA hS hsz eA hl
  obtain ⟨hx, hb, hr, hts, hown, hlk, hml⟩ := id X
  have hl : lv_has ls 4 [(0, .ref x), (1, .int kd), (2, .int ky)] := hl
  have iX3 : ∀ w ∈ wsX30, w ∈ wsX6_checkedRow := by decide +kernel
  refine lv_iload_n hx hb dX6_checkedRow_0 rfl (lv_at hl 1 rfl) ?_
  refine x_callSv X hK hw hZ hS hA (As := [.int kd]) (rest := []) (c_X6_checkKind l G dce _ M hlt kd) (va_cwS 1 hts gX6_checkedRow_X6_checkKind rfl rfl rfl (by decide +kernel) ⟨Nat.le_of_ble_eq_true rfl, Nat.le_of_ble_eq_true rfl⟩) rfl hl.1 rfl (Nat.le_of_ble_eq_true rfl) dX6_checkedRow_1 (Nat.le_of_ble_eq_true rfl) (Nat.le_of_ble_eq_true rfl) (fun E ce q9 M1 H locs hp hw hS hz hk hce hcv hcl9 => ?_) (fun M1 H locs hp hw hS hz hk => ?_)
  · exact m_out X hno hK hw hS hce hcv hcl9 (by omega) (by omega) (⟨Or.inl ⟨hp.1, hp.2.1⟩, hp.2.2⟩)
  have hkd := hp.1
  rw [hp.2] at hw
  refine lv_aload_n hx hb dX6_checkedRow_4 rfl (lv_at hl 0 rfl) ?_
  refine lv_iload_n hx hb dX6_checkedRow_5 rfl (lv_at hl 1 rfl) ?_
  refine m_callVr X (ci := 7) rfl hv hK hw hZ hS hA (As := [.int kd]) (rest := []) (c_X6_tableOf l G dce _ M x ta tb j sa hv kd) (cwV 1 hts gX6_checkedRow_X6_tableOf rfl rfl rfl (by decide +kernel) ⟨Nat.le_of_ble_eq_true rfl, Nat.le_of_ble_eq_true rfl⟩) rfl hl.1 rfl (Nat.le_of_ble_eq_true rfl) dX6_checkedRow_6 (Nat.le_of_ble_eq_true rfl) (Nat.le_of_ble_eq_true rfl) (fun r3 M2 H locs hp hw hS hz hk => ?_)
  rw [hp.2] at hw
  rw [hp.1]
  refine lv_iload_n hx hb dX6_checkedRow_9 rfl (lv_at hl 2 rfl) ?_
  refine m_callVr X (ci := 6) rfl hta hK hw hZ hS hA (As := [.int ky]) (rest := []) (c_X5_rowAt_out l G dce _ M (if kd = 0 then ta else tb) lp nr hta mc n ex hli ky hout) (cwV 1 hts gX6_checkedRow_X5_rowAt rfl rfl rfl (by decide +kernel) ⟨Nat.le_of_ble_eq_true rfl, Nat.le_of_ble_eq_true rfl⟩) rfl hl.1 rfl (Nat.le_of_ble_eq_true rfl) dX6_checkedRow_10 (Nat.le_of_ble_eq_true rfl) (Nat.le_of_ble_eq_true rfl) (fun r5 M4 H locs hp hw hS hz hk => ?_)
  rw [hp.2] at hw
  rw [hp.1]
  refine lv_astore_n (lv' := [(3, .ref nr), (0, .ref x), (1, .int kd), (2, .int ky)]) hx hb dX6_checkedRow_13 rfl hl (by decide) rfl (fun ls hl => ?_)
  refine lv_aload_n hx hb dX6_checkedRow_14 rfl (lv_at hl 0 rfl) ?_
  refine m_get X iX3 hK hw hnr rfl 0 (by decide) (ref := "ObjectMapper$Row") (by decide +kernel) (Or.inl rfl) rfl dX6_checkedRow_15 ?_
  refine lv_if_ne (tgt := 31) hx hb dX6_checkedRow_18 (by decide) (fun c_18 => ?_) (fun c_18 => ?_)
  · exact (by exfalso; exact c_18 (by decide))
  · exact m_throwS X hno hlt rfl (cls := "java/lang/IndexOutOfBoundsException") (text := "no such row") (names := xNm) (by decide +kernel) (by decide +kernel) (by decide +kernel) (by decide +kernel) (by decide) (fun w h => List.mem_cons_of_mem _ (List.mem_append_left _ (List.mem_append_right _ h))) xng_IOB (by decide) xgd_IOB hK hw hZ hS hl.1 dX6_checkedRow_21 dX6_checkedRow_24 dX6_checkedRow_25 dX6_checkedRow_27 dX6_checkedRow_30 (Nat.le_of_ble_eq_true rfl) (Nat.le_of_ble_eq_true rfl) (Nat.le_of_ble_eq_true rfl) (Nat.le_of_ble_eq_true rfl) (by omega) (by omega) (⟨Or.inr ⟨rfl, hkd⟩, rfl⟩)
set_option maxHeartbeats 4000000 in
set_option maxRecDepth 100000 in
theorem c_X6_checkWrite (l : Launch) (G : gG) (dce sz : Nat) (M : gM) (hlt : l.stackTraces = false) (x ta tb j sa : Nat) (hv : M x = some (oX ta tb j sa)) (w : Int32) (ja jr : Nat) (hj : M j = some (oJ w ja jr)) (nu : Int32) : xV l yX6_checkWrite wsX6_checkWrite ({ frames := 6, cells := 1, slots := 6, locals := 82 }) G dce sz M [.ref x, .int nu] (fun M' => (¬ nu < 0 ∧ nu < w) ∧ M' = M) (fun E M' => E = xIOB ∧ ¬ (¬ nu < 0 ∧ nu < w) ∧ M' = M) (1) (6) := by
  have hv : M x = some (.inr (7, [.ref ta, .ref tb, .ref j, .ref sa])) := hv
  have hj : M j = some (.inr (3, [.int w, .ref ja, .ref jr])) := hj
  refine xMet (Qc := QV G _) (XC := QX G _) (cc := cX6_checkWrite) (maxL := 2) (ret := none) (by decide) rfl (Nat.le_of_ble_eq_true rfl) ?_
  intro p e s m below meth c A ls X hno hnm hw hK hZ hA hS hsz eA hl
  obtain ⟨hx, hb, hr, hts, hown, hlk, hml⟩ := id X
  have hl : lv_has ls 2 [(0, .ref x), (1, .int nu)] := hl
  have iX2 : ∀ w ∈ wsX20, w ∈ wsX6_checkWrite := by decide +kernel
  have iX6 : ∀ w ∈ wsX60, w ∈ wsX6_checkWrite := by decide +kernel
  refine lv_iload_n hx hb dX6_checkWrite_0 rfl (lv_at hl 1 rfl) ?_
  refine lv_if_lt (tgt := 15) hx hb dX6_checkWrite_1 (by decide) (fun c_1 => ?_) (fun c_1 => ?_)
  · exact m_throwS X hno hlt rfl (cls := "java/lang/IndexOutOfBoundsException") (text := "no such write") (names := xNm) (by decide +kernel) (by decide +kernel) (by decide +kernel) (by decide +kernel) (by decide) (fun w h => List.mem_cons_of_mem _ (List.mem_append_right _ h)) xng_IOB (by decide) xgd_IOB hK hw hZ hS hl.1 dX6_checkWrite_15 dX6_checkWrite_18 dX6_checkWrite_19 dX6_checkWrite_21 dX6_checkWrite_24 (Nat.le_of_ble_eq_true rfl) (Nat.le_of_ble_eq_true rfl) (Nat.le_of_ble_eq_true rfl) (Nat.le_of_ble_eq_true rfl) (by omega) (by omega) (⟨rfl, fun q => by first | exact q.1 c_1 | exact c_12 q.2, rfl⟩)
  · refine lv_iload_n hx hb dX6_checkWrite_4 rfl (lv_at hl 1 rfl) ?_
    refine lv_aload_n hx hb dX6_checkWrite_5 rfl (lv_at hl 0 rfl) ?_
    refine m_get X iX6 hK hw hv rfl 2 (by decide) (ref := "ObjectMapper") (by decide +kernel) (Or.inl rfl) rfl dX6_checkWrite_6 ?_
    refine m_get X iX2 hK hw hj rfl 0 (by decide) (ref := "ObjectMapper$Journal") (by decide +kernel) (Or.inl rfl) rfl dX6_checkWrite_9 ?_
    refine lv_icmp_lt (tgt := 25) hx hb dX6_checkWrite_12 (by decide) (fun c_12 => ?_) (fun c_12 => ?_)
    · refine vx_ret ?_
      exact m_vret X hK hw hS (by exact ⟨⟨c_1, c_12⟩, rfl⟩) (by omega) (by omega) dX6_checkWrite_25
    · exact m_throwS X hno hlt rfl (cls := "java/lang/IndexOutOfBoundsException") (text := "no such write") (names := xNm) (by decide +kernel) (by decide +kernel) (by decide +kernel) (by decide +kernel) (by decide) (fun w h => List.mem_cons_of_mem _ (List.mem_append_right _ h)) xng_IOB (by decide) xgd_IOB hK hw hZ hS hl.1 dX6_checkWrite_15 dX6_checkWrite_18 dX6_checkWrite_19 dX6_checkWrite_21 dX6_checkWrite_24 (Nat.le_of_ble_eq_true rfl) (Nat.le_of_ble_eq_true rfl) (Nat.le_of_ble_eq_true rfl) (Nat.le_of_ble_eq_true rfl) (by omega) (by omega) (⟨rfl, fun q => by first | exact q.1 c_1 | exact c_12 q.2, rfl⟩)
