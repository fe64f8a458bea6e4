def oS (la lb nb : Nat) : va_E := .inr (5, [.ref la, .ref lb, .ref nb])
def oT (lp nr : Nat) : va_E := .inr (6, [.ref lp, .ref nr])
def oJ (w : Int32) (ja jr : Nat) : va_E := .inr (3, [.int w, .ref ja, .ref jr])
def oI (G : gG) (n : Nat) (f : Nat → Int32) : va_E := .inl (G.2 0, n, .inl f)
def oX (ta tb j sa : Nat) : va_E := .inr (7, [.ref ta, .ref tb, .ref j, .ref sa])
def oF (hs ta tb j : Nat) : va_E := .inr (2, [.ref hs, .ref ta, .ref tb, .ref j])
def v0E : vE := (false, false, false, 0, -1, 0, 0, 0)
def v0R : vR := (false, 0, -1, 0)
set_option maxHeartbeats 4000000 in
set_option maxRecDepth 100000 in
theorem c_X4_listOf (l : Launch) (G : gG) (dce sz : Nat) (M : gM) (hs la lb nb : Nat) (hv : M hs = some (oS la lb nb)) (kd : Int32) : mR l yX4_listOf wsX4_listOf ({ frames := 0, cells := 0, slots := 0, locals := 0 }) G dce sz M [.ref hs, .int kd] (fun r M' => r = (if kd = 0 then la else lb) ∧ M' = M) (0) (0) := by
  have hv : M hs = some (.inr (5, [.ref la, .ref lb, .ref nb])) := hv
  refine wMet (Qc := QR G _) (cc := cX4_listOf) (maxL := 2) (ret := (some (.object "java/util/ArrayList"))) (by decide) rfl (Nat.le_of_ble_eq_true rfl) ?_
  intro p e s m below meth c A ls X hnm hw hK hZ hA hS hsz eA hl
  obtain ⟨hx, hb, hr, hts, hown, hlk, hml⟩ := id X
  have hl : lv_has ls 2 [(0, .ref hs), (1, .int kd)] := hl
  have iX4 : ∀ w ∈ wsX40, w ∈ wsX4_listOf := by decide +kernel
  refine lv_iload_n hx hb dX4_listOf_0 rfl (lv_at hl 1 rfl) ?_
  refine lv_if_ne (tgt := 11) hx hb dX4_listOf_1 (by decide) (fun c_1 => ?_) (fun c_1 => ?_)
  · refine lv_aload_n hx hb dX4_listOf_11 rfl (lv_at hl 0 rfl) ?_
    refine m_get X iX4 hK hw hv rfl 1 (by decide) (ref := "ObjectMapper$Session") (by decide +kernel) (Or.inl rfl) rfl dX4_listOf_12 ?_
    exact m_aret X (Or.inl ⟨_, rfl⟩) hK hw hS (by refine ⟨?_, rfl⟩; simp_all) (by omega) (by omega) dX4_listOf_15
  · refine lv_aload_n hx hb dX4_listOf_4 rfl (lv_at hl 0 rfl) ?_
    refine m_get X iX4 hK hw hv rfl 0 (by decide) (ref := "ObjectMapper$Session") (by decide +kernel) (Or.inl rfl) rfl dX4_listOf_5 ?_
    refine lv_goto (tgt := 15) hx hb dX4_listOf_8 (by decide) ?_
    exact m_aret X (Or.inl ⟨_, rfl⟩) hK hw hS (by refine ⟨?_, rfl⟩; simp_all) (by omega) (by omega) dX4_listOf_15
set_option maxHeartbeats 4000000 in
set_option maxRecDepth 100000 in
theorem c_X4_sizeOf (l : Launch) (G : gG) (dce sz : Nat) (M : gM) (hs la lb nb : Nat) (hv : M hs = some (oS la lb nb)) (kd : Int32) (mc n : Int32) (ex : Nat) (hli : M (if kd = 0 then la else lb) = some (oL mc ex n)) : mI l yX4_sizeOf wsX4_sizeOf ({ frames := 1, cells := 0, slots := 0, locals := 21 }) G dce sz M [.ref hs, .int kd] (fun r M' => r = n ∧ M' = M) (0) (0) := by
  have hv : M hs = some (.inr (5, [.ref la, .ref lb, .ref nb])) := hv
  have hli : M (if kd = 0 then la else lb) = some (.inr (0, [.int mc, .ref ex, .int n])) := hli
  refine wMet (Qc := QI G _) (cc := cX4_sizeOf) (maxL := 2) (ret := (some .int)) (by decide) rfl (Nat.le_of_ble_eq_true rfl) ?_
  intro p e s m below meth c A ls X hnm hw hK hZ hA hS hsz eA hl
  obtain ⟨hx, hb, hr, hts, hown, hlk, hml⟩ := id X
  have hl : lv_has ls 2 [(0, .ref hs), (1, .int kd)] := hl
  refine lv_aload_n hx hb dX4_sizeOf_0 rfl (lv_at hl 0 rfl) ?_
  refine lv_iload_n hx hb dX4_sizeOf_1 rfl (lv_at hl 1 rfl) ?_
  refine m_callVr X (ci := 5) rfl hv hK hw hZ hS hA (As := [.int kd]) (rest := []) (c_X4_listOf l G dce _ M hs la lb nb hv kd) (cwV 1 hts gX4_sizeOf_X4_listOf rfl rfl rfl (by decide +kernel) ⟨Nat.le_of_ble_eq_true rfl, Nat.le_of_ble_eq_true rfl⟩) rfl hl.1 rfl (Nat.le_of_ble_eq_true rfl) dX4_sizeOf_2 (Nat.le_of_ble_eq_true rfl) (Nat.le_of_ble_eq_true rfl) (fun r2 M1 H locs hp hw hS hz hk => ?_)
  rw [hp.2] at hw
  rw [hp.1]
  refine m_callVi X (ci := 0) rfl hli hK hw hZ hS hA (As := []) (rest := []) (c_Jx4a65c_size_8abf5 l G dce _ M (if kd = 0 then la else lb) ex mc n hli) (cwV 0 hts gX4_sizeOf_Jx4a65c_size_8abf5 rfl rfl rfl (by decide +kernel) ⟨Nat.le_of_ble_eq_true rfl, Nat.le_of_ble_eq_true rfl⟩) rfl hl.1 rfl (Nat.le_of_ble_eq_true rfl) dX4_sizeOf_5 (Nat.le_of_ble_eq_true rfl) (Nat.le_of_ble_eq_true rfl) (fun r4 M3 H locs hp hw hS hz hk => ?_)
  rw [hp.2] at hw
  rw [hp.1]
  exact m_iret X hK hw hS (by exact ⟨rfl, rfl⟩) (by omega) (by omega) dX4_sizeOf_8
set_option maxHeartbeats 4000000 in
set_option maxRecDepth 100000 in
theorem c_X4_entityAt_out (l : Launch) (G : gG) (dce sz : Nat) (M : gM) (hs la lb nb : Nat) (hv : M hs = some (oS la lb nb)) (kd : Int32) (mc n : Int32) (ex : Nat) (hli : M (if kd = 0 then la else lb) = some (oL mc ex n)) (ky : Int32) (hout : ky < 0 ∨ n ≤ ky) : mR l yX4_entityAt wsX4_entityAt ({ frames := 3, cells := 0, slots := 0, locals := 64 }) G dce sz M [.ref hs, .int kd, .int ky] (fun r M' => r = nb ∧ M' = M) (0) (0) := by
  have hv : M hs = some (.inr (5, [.ref la, .ref lb, .ref nb])) := hv
  have hli : M (if kd = 0 then la else lb) = some (.inr (0, [.int mc, .ref ex, .int n])) := hli
  refine wMet (Qc := QR G _) (cc := cX4_entityAt) (maxL := 4) (ret := (some (.object "ObjectMapper$Entity"))) (by decide) rfl (Nat.le_of_ble_eq_true rfl) ?_
  intro p e s m below meth c A ls X hnm hw hK hZ hA hS hsz eA hl
  obtain ⟨hx, hb, hr, hts, hown, hlk, hml⟩ := id X
  have hl : lv_has ls 4 [(0, .ref hs), (1, .int kd), (2, .int ky)] := hl
  have iX4 : ∀ w ∈ wsX40, w ∈ wsX4_entityAt := by decide +kernel
  refine lv_aload_n hx hb dX4_entityAt_0 rfl (lv_at hl 0 rfl) ?_
  refine lv_iload_n hx hb dX4_entityAt_1 rfl (lv_at hl 1 rfl) ?_
  refine m_callVr X (ci := 5) rfl hv hK hw hZ hS hA (As := [.int kd]) (rest := []) (c_X4_listOf l G dce _ M hs la lb nb hv kd) (cwV 1 hts gX4_entityAt_X4_listOf rfl rfl rfl (by decide +kernel) ⟨Nat.le_of_ble_eq_true rfl, Nat.le_of_ble_eq_true rfl⟩) rfl hl.1 rfl (Nat.le_of_ble_eq_true rfl) dX4_entityAt_2 (Nat.le_of_ble_eq_true rfl) (Nat.le_of_ble_eq_true rfl) (fun r2 M1 H locs hp hw hS hz hk => ?_)
  rw [hp.2] at hw
  rw [hp.1]
  refine lv_astore_n (lv' := [(3, .ref (if kd = 0 then la else lb)), (0, .ref hs), (1, .int kd), (2, .int ky)]) hx hb dX4_entityAt_5 rfl hl (by decide) rfl (fun ls hl => ?_)
  refine lv_iload_n hx hb dX4_entityAt_6 rfl (lv_at hl 3 rfl) ?_
  refine lv_if_lt (tgt := 18) hx hb dX4_entityAt_7 (by decide) (fun c_7 => ?_) (fun c_7 => ?_)
  · refine lv_aload_n hx hb dX4_entityAt_18 rfl (lv_at hl 1 rfl) ?_
    refine m_get X iX4 hK hw hv rfl 2 (by decide) (ref := "ObjectMapper$Session") (by decide +kernel) (Or.inl rfl) rfl dX4_entityAt_19 ?_
    exact m_aret X (Or.inl ⟨_, rfl⟩) hK hw hS (by exact ⟨rfl, rfl⟩) (by omega) (by omega) dX4_entityAt_22
  · refine lv_iload_n hx hb dX4_entityAt_10 rfl (lv_at hl 3 rfl) ?_
    refine lv_aload_n hx hb dX4_entityAt_11 rfl (lv_at hl 0 rfl) ?_
    refine m_callVi X (ci := 0) rfl hli hK hw hZ hS hA (As := []) (rest := [.int ky]) (c_Jx4a65c_size_8abf5 l G dce _ M (if kd = 0 then la else lb) ex mc n hli) (cwV 0 hts gX4_entityAt_Jx4a65c_size_8abf5 rfl rfl rfl (by decide +kernel) ⟨Nat.le_of_ble_eq_true rfl, Nat.le_of_ble_eq_true rfl⟩) rfl hl.1 rfl (Nat.le_of_ble_eq_true rfl) dX4_entityAt_12 (Nat.le_of_ble_eq_true rfl) (Nat.le_of_ble_eq_true rfl) (fun r4 M3 H locs hp hw hS hz hk => ?_)
    rw [hp.2] at hw
    rw [hp.1]
    refine lv_icmp_lt (tgt := 23) hx hb dX4_entityAt_15 (by decide) (fun c_15 => ?_) (fun c_15 => ?_)
    · exact (by exfalso; exact hout.elim c_7 (fun q => absurd c_15 (Int32.not_lt.mpr q)))
    · refine lv_aload_n hx hb dX4_entityAt_18 rfl (lv_at hl 1 rfl) ?_
      refine m_get X iX4 hK hw hv rfl 2 (by decide) (ref := "ObjectMapper$Session") (by decide +kernel) (Or.inl rfl) rfl dX4_entityAt_19 ?_
      exact m_aret X (Or.inl ⟨_, rfl⟩) hK hw hS (by exact ⟨rfl, rfl⟩) (by omega) (by omega) dX4_entityAt_22
set_option maxHeartbeats 4000000 in
set_option maxRecDepth 100000 in
theorem c_X4_entityAt_in (l : Launch) (G : gG) (dce sz : Nat) (M : gM) (hs la lb nb : Nat) (hv : M hs = some (oS la lb nb)) (kd : Int32) (mc : Int32) (n k cap a ex : Nat) (g : Nat → Option Nat) (w : vE) (hli : M (if kd = 0 then la else lb) = some (oL mc ex (nI n))) (hex : M ex = some (oA G cap g)) (hk0 : k < n) (hnc : n ≤ cap) (hcap : cap ≤ 2048) (hg : g k = some a) (hwe : M a = some (eE w)) : mR l yX4_entityAt wsX4_entityAt ({ frames := 3, cells := 0, slots := 0, locals := 64 }) G dce sz M [.ref hs, .int kd, .int (nI k)] (fun r M' => r = a ∧ M' = M) (0) (0) := by
  have hv : M hs = some (.inr (5, [.ref la, .ref lb, .ref nb])) := hv
  obtain ⟨b1, b2, b3, nm, rf, sn, sr, sv⟩ := w
  have hwe : M a = some (.inr (1, [.int (bI b1), .int (bI b2), .int (bI b3), .int nm, .int rf, .int sn, .int sr, .int sv])) := hwe
  have hli : M (if kd = 0 then la else lb) = some (.inr (0, [.int mc, .ref ex, .int (nI n)])) := hli
  refine wMet (Qc := QR G _) (cc := cX4_entityAt) (maxL := 4) (ret := (some (.object "ObjectMapper$Entity"))) (by decide) rfl (Nat.le_of_ble_eq_true rfl) ?_
  intro p e s m below meth c A ls X hnm hw hK hZ hA hS hsz eA hl
  obtain ⟨hx, hb, hr, hts, hown, hlk, hml⟩ := id X
  have hl : lv_has ls 4 [(0, .ref hs), (1, .int kd), (2, .int (nI k))] := hl
  refine lv_aload_n hx hb dX4_entityAt_0 rfl (lv_at hl 0 rfl) ?_
  refine lv_iload_n hx hb dX4_entityAt_1 rfl (lv_at hl 1 rfl) ?_
  refine m_callVr X (ci := 5) rfl hv hK hw hZ hS hA (As := [.int kd]) (rest := []) (c_X4_listOf l G dce _ M hs la lb nb hv kd) (cwV 1 hts gX4_entityAt_X4_listOf rfl rfl rfl (by decide +kernel) ⟨Nat.le_of_ble_eq_true rfl, Nat.le_of_ble_eq_true rfl⟩) rfl hl.1 rfl (Nat.le_of_ble_eq_true rfl) dX4_entityAt_2 (Nat.le_of_ble_eq_true rfl) (Nat.le_of_ble_eq_true rfl) (fun r2 M1 H locs hp hw hS hz hk => ?_)
  rw [hp.2] at hw
  rw [hp.1]
  refine lv_astore_n (lv' := [(3, .ref (if kd = 0 then la else lb)), (0, .ref hs), (1, .int kd), (2, .int (nI k))]) hx hb dX4_entityAt_5 rfl hl (by decide) rfl (fun ls hl => ?_)
  refine lv_iload_n hx hb dX4_entityAt_6 rfl (lv_at hl 3 rfl) ?_
  refine lv_if_lt (tgt := 18) hx hb dX4_entityAt_7 (by decide) (fun c_7 => ?_) (fun c_7 => ?_)
  · exact (by exfalso; first | exact absurd c_7 (nI_pos (by omega)) | exact c_15 (nI_lt hk0 (by omega)))
  · refine lv_iload_n hx hb dX4_entityAt_10 rfl (lv_at hl 3 rfl) ?_
    refine lv_aload_n hx hb dX4_entityAt_11 rfl (lv_at hl 0 rfl) ?_
    refine m_callVi X (ci := 0) rfl hli hK hw hZ hS hA (As := []) (rest := [.int (nI k)]) (c_Jx4a65c_size_8abf5 l G dce _ M (if kd = 0 then la else lb) ex mc (nI n) hli) (cwV 0 hts gX4_entityAt_Jx4a65c_size_8abf5 rfl rfl rfl (by decide +kernel) ⟨Nat.le_of_ble_eq_true rfl, Nat.le_of_ble_eq_true rfl⟩) rfl hl.1 rfl (Nat.le_of_ble_eq_true rfl) dX4_entityAt_12 (Nat.le_of_ble_eq_true rfl) (Nat.le_of_ble_eq_true rfl) (fun r4 M3 H locs hp hw hS hz hk => ?_)
    rw [hp.2] at hw
    rw [hp.1]
    refine lv_icmp_lt (tgt := 23) hx hb dX4_entityAt_15 (by decide) (fun c_15 => ?_) (fun c_15 => ?_)
    · refine lv_aload_n hx hb dX4_entityAt_23 rfl (lv_at hl 0 rfl) ?_
      refine lv_iload_n hx hb dX4_entityAt_24 rfl (lv_at hl 3 rfl) ?_
      refine m_callVr X (ci := 0) rfl hli hK hw hZ hS hA (As := [.int (nI k)]) (rest := []) (c_Jx4a65c_get_915e3 l G dce _ M (if kd = 0 then la else lb) ex k n cap a mc g hli hex hk0 hnc hcap hg) (cwV 1 hts gX4_entityAt_Jx4a65c_get_915e3 rfl rfl rfl (by decide +kernel) ⟨Nat.le_of_ble_eq_true rfl, Nat.le_of_ble_eq_true rfl⟩) rfl hl.1 rfl (Nat.le_of_ble_eq_true rfl) dX4_entityAt_25 (Nat.le_of_ble_eq_true rfl) (Nat.le_of_ble_eq_true rfl) (fun r6 M5 H locs hp hw hS hz hk => ?_)
      rw [hp.2] at hw
      rw [hp.1]
      refine m_cast X (by decide +kernel) hK hw hwe (ci := 1) rfl dX4_entityAt_28 ?_
      exact m_aret X (Or.inl ⟨_, rfl⟩) hK hw hS (by exact ⟨rfl, rfl⟩) (by omega) (by omega) dX4_entityAt_31
    · exact (by exfalso; first | exact absurd c_7 (nI_pos (by omega)) | exact c_15 (nI_lt hk0 (by omega)))
set_option maxHeartbeats 4000000 in
set_option maxRecDepth 100000 in
theorem c_X5_size (l : Launch) (G : gG) (dce sz : Nat) (M : gM) (ht lp nr : Nat) (hv : M ht = some (oT lp nr)) (mc n : Int32) (ex : Nat) (hli : M lp = some (oL mc ex n)) : mI l yX5_size wsX5_size ({ frames := 1, cells := 0, slots := 0, locals := 20 }) G dce sz M [.ref ht] (fun r M' => r = n ∧ M' = M) (0) (0) := by
  have hv : M ht = some (.inr (6, [.ref lp, .ref nr])) := hv
  have hli : M lp = some (.inr (0, [.int mc, .ref ex, .int n])) := hli
  refine wMet (Qc := QI G _) (cc := cX5_size) (maxL := 1) (ret := (some .int)) (by decide) rfl (Nat.le_of_ble_eq_true rfl) ?_
  intro p e s m below meth c A ls X hnm hw hK hZ hA hS hsz eA hl
  obtain ⟨hx, hb, hr, hts, hown, hlk, hml⟩ := id X
  have hl : lv_has ls 1 [(0, .ref ht)] := hl
  have iX5 : ∀ w ∈ wsX50, w ∈ wsX5_size := by decide +kernel
  refine lv_aload_n hx hb dX5_size_0 rfl (lv_at hl 0 rfl) ?_
  refine m_get X iX5 hK hw hv rfl 0 (by decide) (ref := "ObjectMapper$Table") (by decide +kernel) (Or.inl rfl) rfl dX5_size_1 ?_
  refine m_callVi X (ci := 0) rfl hli hK hw hZ hS hA (As := []) (rest := []) (c_Jx4a65c_size_8abf5 l G dce _ M lp ex mc n hli) (cwV 0 hts gX5_size_Jx4a65c_size_8abf5 rfl rfl rfl (by decide +kernel) ⟨Nat.le_of_ble_eq_true rfl, Nat.le_of_ble_eq_true rfl⟩) rfl hl.1 rfl (Nat.le_of_ble_eq_true rfl) dX5_size_4 (Nat.le_of_ble_eq_true rfl) (Nat.le_of_ble_eq_true rfl) (fun r2 M1 H locs hp hw hS hz hk => ?_)
  rw [hp.2] at hw
  rw [hp.1]
  exact m_iret X hK hw hS (by exact ⟨rfl, rfl⟩) (by omega) (by omega) dX5_size_7
set_option maxHeartbeats 4000000 in
set_option maxRecDepth 100000 in
theorem c_X5_rowAt_out (l : Launch) (G : gG) (dce sz : Nat) (M : gM) (ht lp nr : Nat) (hv : M ht = some (oT lp nr)) (mc n : Int32) (ex : Nat) (hli : M lp = some (oL mc ex n)) (ky : Int32) (hout : ky < 0 ∨ n ≤ ky) : mR l yX5_rowAt wsX5_rowAt ({ frames := 3, cells := 0, slots := 0, locals := 64 }) G dce sz M [.ref ht, .int ky] (fun r M' => r = nr ∧ M' = M) (0) (0) := by
  have hv : M ht = some (.inr (6, [.ref lp, .ref nr])) := hv
  have hli : M lp = some (.inr (0, [.int mc, .ref ex, .int n])) := hli
  refine wMet (Qc := QR G _) (cc := cX5_rowAt) (maxL := 2) (ret := (some (.object "ObjectMapper$Row"))) (by decide) rfl (Nat.le_of_ble_eq_true rfl) ?_
  intro p e s m below meth c A ls X hnm hw hK hZ hA hS hsz eA hl
  obtain ⟨hx, hb, hr, hts, hown, hlk, hml⟩ := id X
  have hl : lv_has ls 2 [(0, .ref ht), (1, .int ky)] := hl
  have iX5 : ∀ w ∈ wsX50, w ∈ wsX5_rowAt := by decide +kernel
  refine lv_iload_n hx hb dX5_rowAt_0 rfl (lv_at hl 1 rfl) ?_
  refine lv_if_lt (tgt := 15) hx hb dX5_rowAt_1 (by decide) (fun c_1 => ?_) (fun c_1 => ?_)
  · refine lv_aload_n hx hb dX5_rowAt_15 rfl (lv_at hl 0 rfl) ?_
    refine m_get X iX5 hK hw hv rfl 1 (by decide) (ref := "ObjectMapper$Table") (by decide +kernel) (Or.inl rfl) rfl dX5_rowAt_16 ?_
    exact m_aret X (Or.inl ⟨_, rfl⟩) hK hw hS (by exact ⟨rfl, rfl⟩) (by omega) (by omega) dX5_rowAt_19
  · refine lv_iload_n hx hb dX5_rowAt_4 rfl (lv_at hl 1 rfl) ?_
    refine lv_aload_n hx hb dX5_rowAt_5 rfl (lv_at hl 0 rfl) ?_
    refine m_get X iX5 hK hw hv rfl 0 (by decide) (ref := "ObjectMapper$Table") (by decide +kernel) (Or.inl rfl) rfl dX5_rowAt_6 ?_
    refine m_callVi X (ci := 0) rfl hli hK hw hZ hS hA (As := []) (rest := [.int ky]) (c_Jx4a65c_size_8abf5 l G dce _ M lp ex mc n hli) (cwV 0 hts gX5_rowAt_Jx4a65c_size_8abf5 rfl rfl rfl (by decide +kernel) ⟨Nat.le_of_ble_eq_true rfl, Nat.le_of_ble_eq_true rfl⟩) rfl hl.1 rfl (Nat.le_of_ble_eq_true rfl) dX5_rowAt_9 (Nat.le_of_ble_eq_true rfl) (Nat.le_of_ble_eq_true rfl) (fun r2 M1 H locs hp hw hS hz hk => ?_)
    rw [hp.2] at hw
    rw [hp.1]
    refine lv_icmp_lt (tgt := 20) hx hb dX5_rowAt_12 (by decide) (fun c_12 => ?_) (fun c_12 => ?_)
    · exact (by exfalso; exact hout.elim c_1 (fun q => absurd c_12 (Int32.not_lt.mpr q)))
    · refine lv_aload_n hx hb dX5_rowAt_15 rfl (lv_at hl 0 rfl) ?_
      refine m_get X iX5 hK hw hv rfl 1 (by decide) (ref := "ObjectMapper$Table") (by decide +kernel) (Or.inl rfl) rfl dX5_rowAt_16 ?_
      exact m_aret X (Or.inl ⟨_, rfl⟩) hK hw hS (by exact ⟨rfl, rfl⟩) (by omega) (by omega) dX5_rowAt_19
set_option maxHeartbeats 4000000 in
set_option maxRecDepth 100000 in
theorem c_X5_rowAt_in (l : Launch) (G : gG) (dce sz : Nat) (M : gM) (ht lp nr : Nat) (hv : M ht = some (oT lp nr)) (mc : Int32) (n k cap a ex : Nat) (g : Nat → Option Nat) (w : vR) (hli : M lp = some (oL mc ex (nI n))) (hex : M ex = some (oA G cap g)) (hk0 : k < n) (hnc : n ≤ cap) (hcap : cap ≤ 2048) (hg : g k = some a) (hwe : M a = some (eR w)) : mR l yX5_rowAt wsX5_rowAt ({ frames := 3, cells := 0, slots := 0, locals := 64 }) G dce sz M [.ref ht, .int (nI k)] (fun r M' => r = a ∧ M' = M) (0) (0) := by
  have hv : M ht = some (.inr (6, [.ref lp, .ref nr])) := hv
  obtain ⟨rb, rn, rr, rv⟩ := w
  have hwe : M a = some (.inr (4, [.int (bI rb), .int rn, .int rr, .int rv])) := hwe
  have hli : M lp = some (.inr (0, [.int mc, .ref ex, .int (nI n)])) := hli
  refine wMet (Qc := QR G _) (cc := cX5_rowAt) (maxL := 2) (ret := (some (.object "ObjectMapper$Row"))) (by decide) rfl (Nat.le_of_ble_eq_true rfl) ?_
  intro p e s m below meth c A ls X hnm hw hK hZ hA hS hsz eA hl
  obtain ⟨hx, hb, hr, hts, hown, hlk, hml⟩ := id X
  have hl : lv_has ls 2 [(0, .ref ht), (1, .int (nI k))] := hl
  have iX5 : ∀ w ∈ wsX50, w ∈ wsX5_rowAt := by decide +kernel
  refine lv_iload_n hx hb dX5_rowAt_0 rfl (lv_at hl 1 rfl) ?_
  refine lv_if_lt (tgt := 15) hx hb dX5_rowAt_1 (by decide) (fun c_1 => ?_) (fun c_1 => ?_)
  · exact (by exfalso; first | exact absurd c_1 (nI_pos (by omega)) | exact c_12 (nI_lt hk0 (by omega)))
  · refine lv_iload_n hx hb dX5_rowAt_4 rfl (lv_at hl 1 rfl) ?_
    refine lv_aload_n hx hb dX5_rowAt_5 rfl (lv_at hl 0 rfl) ?_
    refine m_get X iX5 hK hw hv rfl 0 (by decide) (ref := "ObjectMapper$Table") (by decide +kernel) (Or.inl rfl) rfl dX5_rowAt_6 ?_
    refine m_callVi X (ci := 0) rfl hli hK hw hZ hS hA (As := []) (rest := [.int (nI k)]) (c_Jx4a65c_size_8abf5 l G dce _ M lp ex mc (nI n) hli) (cwV 0 hts gX5_rowAt_Jx4a65c_size_8abf5 rfl rfl rfl (by decide +kernel) ⟨Nat.le_of_ble_eq_true rfl, Nat.le_of_ble_eq_true rfl⟩) rfl hl.1 rfl (Nat.le_of_ble_eq_true rfl) dX5_rowAt_9 (Nat.le_of_ble_eq_true rfl) (Nat.le_of_ble_eq_true rfl) (fun r2 M1 H locs hp hw hS hz hk => ?_)
    rw [hp.2] at hw
    rw [hp.1]
    refine lv_icmp_lt (tgt := 20) hx hb dX5_rowAt_12 (by decide) (fun c_12 => ?_) (fun c_12 => ?_)
    · refine lv_aload_n hx hb dX5_rowAt_20 rfl (lv_at hl 0 rfl) ?_
      refine m_get X iX5 hK hw hv rfl 0 (by decide) (ref := "ObjectMapper$Table") (by decide +kernel) (Or.inl rfl) rfl dX5_rowAt_21 ?_
      refine lv_iload_n hx hb dX5_rowAt_24 rfl (lv_at hl 1 rfl) ?_
      refine m_callVr X (ci := 0) rfl hli hK hw hZ hS hA (As := [.int (nI k)]) (rest := []) (c_Jx4a65c_get_915e3 l G dce _ M lp ex k n cap a mc g hli hex hk0 hnc hcap hg) (cwV 1 hts gX5_rowAt_Jx4a65c_get_915e3 rfl rfl rfl (by decide +kernel) ⟨Nat.le_of_ble_eq_true rfl, Nat.le_of_ble_eq_true rfl⟩) rfl hl.1 rfl (Nat.le_of_ble_eq_true rfl) dX5_rowAt_25 (Nat.le_of_ble_eq_true rfl) (Nat.le_of_ble_eq_true rfl) (fun r4 M3 H locs hp hw hS hz hk => ?_)
      rw [hp.2] at hw
      rw [hp.1]
      refine m_cast X (by decide +kernel) hK hw hwe (ci := 4) rfl dX5_rowAt_28 ?_
      exact m_aret X (Or.inl ⟨_, rfl⟩) hK hw hS (by exact ⟨rfl, rfl⟩) (by omega) (by omega) dX5_rowAt_31
    · exact (by exfalso; first | exact absurd c_1 (nI_pos (by omega)) | exact c_12 (nI_lt hk0 (by omega)))
set_option maxHeartbeats 4000000 in
set_option maxRecDepth 100000 in
theorem c_X4_countLive_0 (l : Launch) (G : gG) (dce sz : Nat) (M : gM) (hs la lb nb : Nat) (hv : M hs = some (oS la lb nb)) (kd : Int32) (mc : Int32) (ex : Nat) (hli : M (if kd = 0 then la else lb) = some (oL mc ex 0)) : mI l yX4_countLive wsX4_countLive ({ frames := 2, cells := 0, slots := 0, locals := 42 }) G dce sz M [.ref hs, .int kd] (fun r M' => r = 0 ∧ M' = M) (0) (0) := by
  have hv : M hs = some (.inr (5, [.ref la, .ref lb, .ref nb])) := hv
  have hli : M (if kd = 0 then la else lb) = some (.inr (0, [.int mc, .ref ex, .int 0])) := hli
  refine wMet (Qc := QI G _) (cc := cX4_countLive) (maxL := 4) (ret := (some .int)) (by decide) rfl (Nat.le_of_ble_eq_true rfl) ?_
  intro p e s m below meth c A ls X hnm hw hK hZ hA hS hsz eA hl
  obtain ⟨hx, hb, hr, hts, hown, hlk, hml⟩ := id X
  have hl : lv_has ls 4 [(0, .ref hs), (1, .int kd)] := hl
  refine lv_iconst (v := 0) hx hb dX4_countLive_0 (by decide) ?_
  refine lv_istore_n (lv' := [(2, .int 0), (0, .ref hs), (1, .int kd)]) hx hb dX4_countLive_1 rfl hl (by decide) rfl (fun ls hl => ?_)
  refine lv_iconst (v := 0) hx hb dX4_countLive_2 (by decide) ?_
  refine lv_istore_n (lv' := [(3, .int 0), (2, .int 0), (0, .ref hs), (1, .int kd)]) hx hb dX4_countLive_3 rfl hl (by decide) rfl (fun ls hl => ?_)
  refine lv_iload_n hx hb dX4_countLive_4 rfl (lv_at hl 0 rfl) ?_
  refine lv_aload_n hx hb dX4_countLive_5 rfl (lv_at hl 2 rfl) ?_
  refine lv_iload_n hx hb dX4_countLive_6 rfl (lv_at hl 3 rfl) ?_
  refine m_callVi X (ci := 5) rfl hv hK hw hZ hS hA (As := [.int kd]) (rest := [.int 0]) (c_X4_sizeOf l G dce _ M hs la lb nb hv kd mc 0 ex hli) (cwV 1 hts gX4_countLive_X4_sizeOf rfl rfl rfl (by decide +kernel) ⟨Nat.le_of_ble_eq_true rfl, Nat.le_of_ble_eq_true rfl⟩) rfl hl.1 rfl (Nat.le_of_ble_eq_true rfl) dX4_countLive_7 (Nat.le_of_ble_eq_true rfl) (Nat.le_of_ble_eq_true rfl) (fun r2 M1 H locs hp hw hS hz hk => ?_)
  rw [hp.2] at hw
  rw [hp.1]
  refine lv_icmp_ge (tgt := 34) hx hb dX4_countLive_10 (by decide) (fun c_10 => ?_) (fun c_10 => ?_)
  · refine lv_iload_n hx hb dX4_countLive_34 rfl (lv_at hl 1 rfl) ?_
    exact m_iret X hK hw hS (by exact ⟨rfl, rfl⟩) (by omega) (by omega) dX4_countLive_35
  · exact (by exfalso; exact c_10 (by decide))
set_option maxHeartbeats 4000000 in
set_option maxRecDepth 100000 in
theorem c_X4_countLiveAndDirty_0 (l : Launch) (G : gG) (dce sz : Nat) (M : gM) (hs la lb nb : Nat) (hv : M hs = some (oS la lb nb)) (kd : Int32) (mc : Int32) (ex : Nat) (hli : M (if kd = 0 then la else lb) = some (oL mc ex 0)) : mI l yX4_countLiveAndDirty wsX4_countLiveAndDirty ({ frames := 2, cells := 0, slots := 0, locals := 42 }) G dce sz M [.ref hs, .int kd] (fun r M' => r = 0 ∧ M' = M) (0) (0) := by
  have hv : M hs = some (.inr (5, [.ref la, .ref lb, .ref nb])) := hv
  have hli : M (if kd = 0 then la else lb) = some (.inr (0, [.int mc, .ref ex, .int 0])) := hli
  refine wMet (Qc := QI G _) (cc := cX4_countLiveAndDirty) (maxL := 5) (ret := (some .int)) (by decide) rfl (Nat.le_of_ble_eq_true rfl) ?_
  intro p e s m below meth c A ls X hnm hw hK hZ hA hS hsz eA hl
  obtain ⟨hx, hb, hr, hts, hown, hlk, hml⟩ := id X
  have hl : lv_has ls 5 [(0, .ref hs), (1, .int kd)] := hl
  refine lv_iconst (v := 0) hx hb dX4_countLiveAndDirty_0 (by decide) ?_
  refine lv_istore_n (lv' := [(2, .int 0), (0, .ref hs), (1, .int kd)]) hx hb dX4_countLiveAndDirty_1 rfl hl (by decide) rfl (fun ls hl => ?_)
  refine lv_iconst (v := 0) hx hb dX4_countLiveAndDirty_2 (by decide) ?_
  refine lv_istore_n (lv' := [(3, .int 0), (2, .int 0), (0, .ref hs), (1, .int kd)]) hx hb dX4_countLiveAndDirty_3 rfl hl (by decide) rfl (fun ls hl => ?_)
  refine lv_iload_n hx hb dX4_countLiveAndDirty_4 rfl (lv_at hl 0 rfl) ?_
  refine lv_aload_n hx hb dX4_countLiveAndDirty_5 rfl (lv_at hl 2 rfl) ?_
  refine lv_iload_n hx hb dX4_countLiveAndDirty_6 rfl (lv_at hl 3 rfl) ?_
  refine m_callVi X (ci := 5) rfl hv hK hw hZ hS hA (As := [.int kd]) (rest := [.int 0]) (c_X4_sizeOf l G dce _ M hs la lb nb hv kd mc 0 ex hli) (cwV 1 hts gX4_countLiveAndDirty_X4_sizeOf rfl rfl rfl (by decide +kernel) ⟨Nat.le_of_ble_eq_true rfl, Nat.le_of_ble_eq_true rfl⟩) rfl hl.1 rfl (Nat.le_of_ble_eq_true rfl) dX4_countLiveAndDirty_7 (Nat.le_of_ble_eq_true rfl) (Nat.le_of_ble_eq_true rfl) (fun r2 M1 H locs hp hw hS hz hk => ?_)
  rw [hp.2] at hw
  rw [hp.1]
  refine lv_icmp_ge (tgt := 46) hx hb dX4_countLiveAndDirty_10 (by decide) (fun c_10 => ?_) (fun c_10 => ?_)
  · refine lv_iload_n hx hb dX4_countLiveAndDirty_46 rfl (lv_at hl 1 rfl) ?_
    exact m_iret X hK hw hS (by exact ⟨rfl, rfl⟩) (by omega) (by omega) dX4_countLiveAndDirty_47
  · exact (by exfalso; exact c_10 (by decide))
set_option maxHeartbeats 4000000 in
set_option maxRecDepth 100000 in
theorem c_X4_forgetAll_0 (l : Launch) (G : gG) (dce sz : Nat) (M : gM) (hs la lb nb : Nat) (hv : M hs = some (oS la lb nb)) (kd : Int32) (mc : Int32) (ex : Nat) (hli : M (if kd = 0 then la else lb) = some (oL mc ex 0)) : mV l yX4_forgetAll wsX4_forgetAll ({ frames := 2, cells := 0, slots := 0, locals := 42 }) G dce sz M [.ref hs, .int kd] (fun M' => M' = M) (0) (0) := by
  have hv : M hs = some (.inr (5, [.ref la, .ref lb, .ref nb])) := hv
  have hli : M (if kd = 0 then la else lb) = some (.inr (0, [.int mc, .ref ex, .int 0])) := hli
  refine wMet (Qc := QV G _) (cc := cX4_forgetAll) (maxL := 3) (ret := none) (by decide) rfl (Nat.le_of_ble_eq_true rfl) ?_
  intro p e s m below meth c A ls X hnm hw hK hZ hA hS hsz eA hl
  obtain ⟨hx, hb, hr, hts, hown, hlk, hml⟩ := id X
  have hl : lv_has ls 3 [(0, .ref hs), (1, .int kd)] := hl
  refine lv_iconst (v := 0) hx hb dX4_forgetAll_0 (by decide) ?_
  refine lv_istore_n (lv' := [(2, .int 0), (0, .ref hs), (1, .int kd)]) hx hb dX4_forgetAll_1 rfl hl (by decide) rfl (fun ls hl => ?_)
  refine lv_iload_n hx hb dX4_forgetAll_2 rfl (lv_at hl 0 rfl) ?_
  refine lv_aload_n hx hb dX4_forgetAll_3 rfl (lv_at hl 1 rfl) ?_
  refine lv_iload_n hx hb dX4_forgetAll_4 rfl (lv_at hl 2 rfl) ?_
  refine m_callVi X (ci := 5) rfl hv hK hw hZ hS hA (As := [.int kd]) (rest := [.int 0]) (c_X4_sizeOf l G dce _ M hs la lb nb hv kd mc 0 ex hli) (cwV 1 hts gX4_forgetAll_X4_sizeOf rfl rfl rfl (by decide +kernel) ⟨Nat.le_of_ble_eq_true rfl, Nat.le_of_ble_eq_true rfl⟩) rfl hl.1 rfl (Nat.le_of_ble_eq_true rfl) dX4_forgetAll_5 (Nat.le_of_ble_eq_true rfl) (Nat.le_of_ble_eq_true rfl) (fun r2 M1 H locs hp hw hS hz hk => ?_)
  rw [hp.2] at hw
  rw [hp.1]
  refine lv_icmp_ge (tgt := 26) hx hb dX4_forgetAll_8 (by decide) (fun c_8 => ?_) (fun c_8 => ?_)
  · exact m_vret X hK hw hS (by rfl) (by omega) (by omega) dX4_forgetAll_26
  · exact (by exfalso; exact c_8 (by decide))
set_option maxHeartbeats 4000000 in
set_option maxRecDepth 100000 in
theorem c_X5_countThere_0 (l : Launch) (G : gG) (dce sz : Nat) (M : gM) (ht lp nr : Nat) (hv : M ht = some (oT lp nr)) (mc : Int32) (ex : Nat) (hli : M lp = some (oL mc ex 0)) : mI l yX5_countThere wsX5_countThere ({ frames := 1, cells := 0, slots := 0, locals := 20 }) G dce sz M [.ref ht] (fun r M' => r = 0 ∧ M' = M) (0) (0) := by
  have hv : M ht = some (.inr (6, [.ref lp, .ref nr])) := hv
  have hli : M lp = some (.inr (0, [.int mc, .ref ex, .int 0])) := hli
  refine wMet (Qc := QI G _) (cc := cX5_countThere) (maxL := 3) (ret := (some .int)) (by decide) rfl (Nat.le_of_ble_eq_true rfl) ?_
  intro p e s m below meth c A ls X hnm hw hK hZ hA hS hsz eA hl
  obtain ⟨hx, hb, hr, hts, hown, hlk, hml⟩ := id X
  have hl : lv_has ls 3 [(0, .ref ht)] := hl
  have iX5 : ∀ w ∈ wsX50, w ∈ wsX5_countThere := by decide +kernel
  refine lv_iconst (v := 0) hx hb dX5_countThere_0 (by decide) ?_
  refine lv_istore_n (lv' := [(1, .int 0), (0, .ref ht)]) hx hb dX5_countThere_1 rfl hl (by decide) rfl (fun ls hl => ?_)
  refine lv_iconst (v := 0) hx hb dX5_countThere_2 (by decide) ?_
  refine lv_istore_n (lv' := [(2, .int 0), (1, .int 0), (0, .ref ht)]) hx hb dX5_countThere_3 rfl hl (by decide) rfl (fun ls hl => ?_)
  refine lv_iload_n hx hb dX5_countThere_4 rfl (lv_at hl 0 rfl) ?_
  refine lv_aload_n hx hb dX5_countThere_5 rfl (lv_at hl 2 rfl) ?_
  refine m_get X iX5 hK hw hv rfl 0 (by decide) (ref := "ObjectMapper$Table") (by decide +kernel) (Or.inl rfl) rfl dX5_countThere_6 ?_
  refine m_callVi X (ci := 0) rfl hli hK hw hZ hS hA (As := []) (rest := [.int 0]) (c_Jx4a65c_size_8abf5 l G dce _ M lp ex mc 0 hli) (cwV 0 hts gX5_countThere_Jx4a65c_size_8abf5 rfl rfl rfl (by decide +kernel) ⟨Nat.le_of_ble_eq_true rfl, Nat.le_of_ble_eq_true rfl⟩) rfl hl.1 rfl (Nat.le_of_ble_eq_true rfl) dX5_countThere_9 (Nat.le_of_ble_eq_true rfl) (Nat.le_of_ble_eq_true rfl) (fun r2 M1 H locs hp hw hS hz hk => ?_)
  rw [hp.2] at hw
  rw [hp.1]
  refine lv_icmp_ge (tgt := 35) hx hb dX5_countThere_12 (by decide) (fun c_12 => ?_) (fun c_12 => ?_)
  · refine lv_iload_n hx hb dX5_countThere_35 rfl (lv_at hl 1 rfl) ?_
    exact m_iret X hK hw hS (by exact ⟨rfl, rfl⟩) (by omega) (by omega) dX5_countThere_36
  · exact (by exfalso; exact c_12 (by decide))
set_option maxHeartbeats 4000000 in
set_option maxRecDepth 100000 in
theorem c_X2_isFull (l : Launch) (G : gG) (dce sz : Nat) (M : gM) (hj ja jr : Nat) (w : Int32) (hv : M hj = some (oJ w ja jr)) : mI l yX2_isFull wsX2_isFull ({ frames := 0, cells := 0, slots := 0, locals := 0 }) G dce sz M [.ref hj] (fun r M' => r = bI (decide (4096 ≤ w)) ∧ M' = M) (0) (0) := by
  have hv : M hj = some (.inr (3, [.int w, .ref ja, .ref jr])) := hv
  refine wMet (Qc := QI G _) (cc := cX2_isFull) (maxL := 1) (ret := (some .boolean)) (by decide) rfl (Nat.le_of_ble_eq_true rfl) ?_
  intro p e s m below meth c A ls X hnm hw hK hZ hA hS hsz eA hl
  obtain ⟨hx, hb, hr, hts, hown, hlk, hml⟩ := id X
  have hl : lv_has ls 1 [(0, .ref hj)] := hl
  have iX2 : ∀ w ∈ wsX20, w ∈ wsX2_isFull := by decide +kernel
  refine lv_aload_n hx hb dX2_isFull_0 rfl (lv_at hl 0 rfl) ?_
  refine m_get X iX2 hK hw hv rfl 0 (by decide) (ref := "ObjectMapper$Journal") (by decide +kernel) (Or.inl rfl) rfl dX2_isFull_1 ?_
  refine lv_sipush (v := 4096) hx hb dX2_isFull_4 (by decide) ?_
  refine lv_icmp_lt (tgt := 14) hx hb dX2_isFull_7 (by decide) (fun c_7 => ?_) (fun c_7 => ?_)
  · refine lv_iconst (v := 0) hx hb dX2_isFull_14 (by decide) ?_
    exact m_zret X (by decide) hK hw hS (by refine ⟨?_, rfl⟩; simp_all [bI]) (by omega) (by omega) dX2_isFull_15
  · refine lv_iconst (v := 1) hx hb dX2_isFull_10 (by decide) ?_
    refine lv_goto (tgt := 15) hx hb dX2_isFull_11 (by decide) ?_
    exact m_zret X (by decide) hK hw hS (by refine ⟨?_, rfl⟩; simp_all [bI]) (by omega) (by omega) dX2_isFull_15
set_option maxHeartbeats 4000000 in
set_option maxRecDepth 100000 in
theorem c_X1_init (l : Launch) (G : gG) (dce sz : Nat) (M : gM) (h hs ta tb j : Nat) (hv : M h = some (.inr (2, [.null, .null, .null, .null]))) : mV l yX1_init wsX1_init ({ frames := 1, cells := 0, slots := 0, locals := 12 }) G dce sz M [.ref h, .ref hs, .ref ta, .ref tb, .ref j] (fun M' => M' = mu M h (oF hs ta tb j)) (0) (0) := by
  refine wMet (Qc := QV G _) (cc := cX1_init) (maxL := 5) (ret := none) (by decide) rfl (Nat.le_of_ble_eq_true rfl) ?_
  intro p e s m below meth c A ls X hnm hw hK hZ hA hS hsz eA hl
  obtain ⟨hx, hb, hr, hts, hown, hlk, hml⟩ := id X
  have hl : lv_has ls 5 [(0, .ref h), (1, .ref hs), (2, .ref ta), (3, .ref tb), (4, .ref j)] := hl
  have hin : meth.name = "<init>" := hnm
  have iX1 : ∀ w ∈ wsX10, w ∈ wsX1_init := by decide +kernel
  refine lv_aload_n hx hb dX1_init_0 rfl (lv_at hl 0 rfl) ?_
  refine W.objInit hx hb hown (hts (.methodLink RX1 3 objectInit) (by decide +kernel)) (hts (.instanceMethod objectInit) (by decide +kernel)) (hts (.code objectInit ⟨#[0xb1]⟩ 1 none) (by decide +kernel)) rfl (by rw [hml]; exact hl.1) rfl dX1_init_1 (Nat.le_of_ble_eq_true rfl) (Nat.le_of_ble_eq_true rfl) ?_
  refine W.eq (g2 := F0 m 4 ls []) rfl ?_
  refine lv_aload_n hx hb dX1_init_4 rfl (lv_at hl 0 rfl) ?_
  refine lv_aload_n hx hb dX1_init_5 rfl (lv_at hl 1 rfl) ?_
  refine m_putF X iX1 tyX1_ok nmX1 hK hw hS hv rfl 0 (by decide) (ref := "ObjectMapper$Flush") (by decide +kernel) (Or.inl rfl) rfl hin rfl (v := .ref hs) rfl rfl (Nat.le_of_ble_eq_true rfl) (fs1 := [.ref hs, .null, .null, .null]) rfl dX1_init_6 (fun M1 H locs eM1 hw hS => ?_)
  have k2 : M1 h = some (.inr (2, [.ref hs, .null, .null, .null])) := by rw [eM1]; exact mu_s _ _ _
  refine lv_aload_n hx hb dX1_init_9 rfl (lv_at hl 0 rfl) ?_
  refine lv_aload_n hx hb dX1_init_10 rfl (lv_at hl 2 rfl) ?_
  refine m_putF X iX1 tyX1_ok nmX1 hK hw hS k2 rfl 1 (by decide) (ref := "ObjectMapper$Flush") (by decide +kernel) (Or.inl rfl) rfl hin rfl (v := .ref ta) rfl rfl (Nat.le_of_ble_eq_true rfl) (fs1 := [.ref hs, .ref ta, .null, .null]) rfl dX1_init_11 (fun M3 H locs eM3 hw hS => ?_)
  have k4 : M3 h = some (.inr (2, [.ref hs, .ref ta, .null, .null])) := by rw [eM3]; exact mu_s _ _ _
  refine lv_aload_n hx hb dX1_init_14 rfl (lv_at hl 0 rfl) ?_
  refine lv_aload_n hx hb dX1_init_15 rfl (lv_at hl 3 rfl) ?_
  refine m_putF X iX1 tyX1_ok nmX1 hK hw hS k4 rfl 2 (by decide) (ref := "ObjectMapper$Flush") (by decide +kernel) (Or.inl rfl) rfl hin rfl (v := .ref tb) rfl rfl (Nat.le_of_ble_eq_true rfl) (fs1 := [.ref hs, .ref ta, .ref tb, .null]) rfl dX1_init_16 (fun M5 H locs eM5 hw hS => ?_)
  have k6 : M5 h = some (.inr (2, [.ref hs, .ref ta, .ref tb, .null])) := by rw [eM5]; exact mu_s _ _ _
  refine lv_aload_n hx hb dX1_init_19 rfl (lv_at hl 0 rfl) ?_
  refine lv_aload hx hb dX1_init_20 (lv_at hl 4 rfl) ?_
  refine m_putF X iX1 tyX1_ok nmX1 hK hw hS k6 rfl 3 (by decide) (ref := "ObjectMapper$Flush") (by decide +kernel) (Or.inl rfl) rfl hin rfl (v := .ref j) rfl rfl (Nat.le_of_ble_eq_true rfl) (fs1 := [.ref hs, .ref ta, .ref tb, .ref j]) rfl dX1_init_22 (fun M7 H locs eM7 hw hS => ?_)
  have k8 : M7 h = some (.inr (2, [.ref hs, .ref ta, .ref tb, .ref j])) := by rw [eM7]; exact mu_s _ _ _
  exact m_vret X hK hw hS (by subst_vars; simp only [mu_mu]; rfl) (by omega) (by omega) dX1_init_25
