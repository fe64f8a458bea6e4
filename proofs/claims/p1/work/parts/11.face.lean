set_option maxHeartbeats 4000000 in
set_option maxRecDepth 100000 in
theorem c_X1_clashesIn_0 (l : Launch) (G : gG) (dce sz : Nat) (M : gM) (h hs ta tb j la lb nb : Nat) (hF : M h = some (oF hs ta tb j)) (hv : M hs = some (oS la lb nb)) (hla : M la = some (oL 0 dce 0)) (hlb : M lb = some (oL 0 dce 0)) (kd : Int32) : mI l yX1_clashesIn wsX1_clashesIn ({ frames := 2, cells := 0, slots := 0, locals := 42 }) G dce sz M [.ref h, .int kd] (fun r M' => r = 0 ∧ M' = M) (0) (0) := by
  have hF : M h = some (.inr (2, [.ref hs, .ref ta, .ref tb, .ref j])) := hF
  have hv : M hs = some (.inr (5, [.ref la, .ref lb, .ref nb])) := hv
  refine wMet (Qc := QI G _) (cc := cX1_clashesIn) (maxL := 3) (ret := (some .boolean)) (by decide) rfl (Nat.le_of_ble_eq_true rfl) ?_
  intro p e s m below meth c A ls X hnm hw hK hZ hA hS hsz eA hl
  obtain ⟨hx, hb, hr, hts, hown, hlk, hml⟩ := id X
  have hl : lv_has ls 3 [(0, .ref h), (1, .int kd)] := hl
  have iX1 : ∀ w ∈ wsX10, w ∈ wsX1_clashesIn := by decide +kernel
  refine lv_iconst (v := 0) hx hb dX1_clashesIn_0 (by decide) ?_
  refine lv_istore_n (lv' := [(2, .int 0), (0, .ref h), (1, .int kd)]) hx hb dX1_clashesIn_1 rfl hl (by decide) rfl (fun ls hl => ?_)
  refine lv_iload_n hx hb dX1_clashesIn_2 rfl (lv_at hl 0 rfl) ?_
  refine lv_aload_n hx hb dX1_clashesIn_3 rfl (lv_at hl 1 rfl) ?_
  refine m_get X iX1 hK hw hF rfl 0 (by decide) (ref := "ObjectMapper$Flush") (by decide +kernel) (Or.inl rfl) rfl dX1_clashesIn_4 ?_
  refine lv_iload_n hx hb dX1_clashesIn_7 rfl (lv_at hl 2 rfl) ?_
  refine m_callVi X (ci := 5) rfl hv hK hw hZ hS hA (As := [.int kd]) (rest := [.int 0]) (c_X4_sizeOf l G dce _ M hs la lb nb hv kd 0 0 dce (by split <;> assumption)) (cwV 1 hts gX1_clashesIn_X4_sizeOf rfl rfl rfl (by decide +kernel) ⟨Nat.le_of_ble_eq_true rfl, Nat.le_of_ble_eq_true rfl⟩) rfl hl.1 rfl (Nat.le_of_ble_eq_true rfl) dX1_clashesIn_8 (Nat.le_of_ble_eq_true rfl) (Nat.le_of_ble_eq_true rfl) (fun r2 M1 H locs hp hw hS hz hk => ?_)
  rw [hp.2] at hw
  rw [hp.1]
  refine lv_icmp_ge (tgt := 46) hx hb dX1_clashesIn_11 (by decide) (fun c_11 => ?_) (fun c_11 => ?_)
  · refine lv_iconst (v := 0) hx hb dX1_clashesIn_46 (by decide) ?_
    exact m_zret X (by decide) hK hw hS (by exact ⟨rfl, rfl⟩) (by omega) (by omega) dX1_clashesIn_47
  · exact (by exfalso; exact c_11 (by decide))
set_option maxHeartbeats 4000000 in
set_option maxRecDepth 100000 in
theorem c_X1_leavesDanglingIn_0 (l : Launch) (G : gG) (dce sz : Nat) (M : gM) (h hs ta tb j la lb nb : Nat) (hF : M h = some (oF hs ta tb j)) (hv : M hs = some (oS la lb nb)) (hla : M la = some (oL 0 dce 0)) (hlb : M lb = some (oL 0 dce 0)) (kd : Int32) : mI l yX1_leavesDanglingIn wsX1_leavesDanglingIn ({ frames := 2, cells := 0, slots := 0, locals := 42 }) G dce sz M [.ref h, .int kd] (fun r M' => r = 0 ∧ M' = M) (0) (0) := by
  have hF : M h = some (.inr (2, [.ref hs, .ref ta, .ref tb, .ref j])) := hF
  have hv : M hs = some (.inr (5, [.ref la, .ref lb, .ref nb])) := hv
  refine wMet (Qc := QI G _) (cc := cX1_leavesDanglingIn) (maxL := 4) (ret := (some .boolean)) (by decide) rfl (Nat.le_of_ble_eq_true rfl) ?_
  intro p e s m below meth c A ls X hnm hw hK hZ hA hS hsz eA hl
  obtain ⟨hx, hb, hr, hts, hown, hlk, hml⟩ := id X
  have hl : lv_has ls 4 [(0, .ref h), (1, .int kd)] := hl
  have iX1 : ∀ w ∈ wsX10, w ∈ wsX1_leavesDanglingIn := by decide +kernel
  refine lv_iconst (v := 0) hx hb dX1_leavesDanglingIn_0 (by decide) ?_
  refine lv_istore_n (lv' := [(2, .int 0), (0, .ref h), (1, .int kd)]) hx hb dX1_leavesDanglingIn_1 rfl hl (by decide) rfl (fun ls hl => ?_)
  refine lv_iload_n hx hb dX1_leavesDanglingIn_2 rfl (lv_at hl 0 rfl) ?_
  refine lv_aload_n hx hb dX1_leavesDanglingIn_3 rfl (lv_at hl 1 rfl) ?_
  refine m_get X iX1 hK hw hF rfl 0 (by decide) (ref := "ObjectMapper$Flush") (by decide +kernel) (Or.inl rfl) rfl dX1_leavesDanglingIn_4 ?_
  refine lv_iload_n hx hb dX1_leavesDanglingIn_7 rfl (lv_at hl 2 rfl) ?_
  refine m_callVi X (ci := 5) rfl hv hK hw hZ hS hA (As := [.int kd]) (rest := [.int 0]) (c_X4_sizeOf l G dce _ M hs la lb nb hv kd 0 0 dce (by split <;> assumption)) (cwV 1 hts gX1_leavesDanglingIn_X4_sizeOf rfl rfl rfl (by decide +kernel) ⟨Nat.le_of_ble_eq_true rfl, Nat.le_of_ble_eq_true rfl⟩) rfl hl.1 rfl (Nat.le_of_ble_eq_true rfl) dX1_leavesDanglingIn_8 (Nat.le_of_ble_eq_true rfl) (Nat.le_of_ble_eq_true rfl) (fun r2 M1 H locs hp hw hS hz hk => ?_)
  rw [hp.2] at hw
  rw [hp.1]
  refine lv_icmp_ge (tgt := 55) hx hb dX1_leavesDanglingIn_11 (by decide) (fun c_11 => ?_) (fun c_11 => ?_)
  · refine lv_iconst (v := 0) hx hb dX1_leavesDanglingIn_55 (by decide) ?_
    exact m_zret X (by decide) hK hw hS (by exact ⟨rfl, rfl⟩) (by omega) (by omega) dX1_leavesDanglingIn_56
  · exact (by exfalso; exact c_11 (by decide))
set_option maxHeartbeats 4000000 in
set_option maxRecDepth 100000 in
theorem c_X1_insertAuthors_0 (l : Launch) (G : gG) (dce sz : Nat) (M : gM) (h hs ta tb j la lb nb : Nat) (hF : M h = some (oF hs ta tb j)) (hv : M hs = some (oS la lb nb)) (hla : M la = some (oL 0 dce 0)) (hlb : M lb = some (oL 0 dce 0)) : mV l yX1_insertAuthors wsX1_insertAuthors ({ frames := 2, cells := 0, slots := 0, locals := 42 }) G dce sz M [.ref h] (fun M' => M' = M) (0) (0) := by
  have hF : M h = some (.inr (2, [.ref hs, .ref ta, .ref tb, .ref j])) := hF
  have hv : M hs = some (.inr (5, [.ref la, .ref lb, .ref nb])) := hv
  refine wMet (Qc := QV G _) (cc := cX1_insertAuthors) (maxL := 4) (ret := none) (by decide) rfl (Nat.le_of_ble_eq_true rfl) ?_
  intro p e s m below meth c A ls X hnm hw hK hZ hA hS hsz eA hl
  obtain ⟨hx, hb, hr, hts, hown, hlk, hml⟩ := id X
  have hl : lv_has ls 4 [(0, .ref h)] := hl
  have iX1 : ∀ w ∈ wsX10, w ∈ wsX1_insertAuthors := by decide +kernel
  refine lv_iconst (v := 0) hx hb dX1_insertAuthors_0 (by decide) ?_
  refine lv_istore_n (lv' := [(1, .int 0), (0, .ref h)]) hx hb dX1_insertAuthors_1 rfl hl (by decide) rfl (fun ls hl => ?_)
  refine lv_iload_n hx hb dX1_insertAuthors_2 rfl (lv_at hl 0 rfl) ?_
  refine lv_aload_n hx hb dX1_insertAuthors_3 rfl (lv_at hl 1 rfl) ?_
  refine m_get X iX1 hK hw hF rfl 0 (by decide) (ref := "ObjectMapper$Flush") (by decide +kernel) (Or.inl rfl) rfl dX1_insertAuthors_4 ?_
  refine lv_iconst (v := 0) hx hb dX1_insertAuthors_7 (by decide) ?_
  refine m_callVi X (ci := 5) rfl hv hK hw hZ hS hA (As := [.int 0]) (rest := [.int 0]) (c_X4_sizeOf l G dce _ M hs la lb nb hv 0 0 0 dce (by rw [if_pos rfl]; exact hla)) (cwV 1 hts gX1_insertAuthors_X4_sizeOf rfl rfl rfl (by decide +kernel) ⟨Nat.le_of_ble_eq_true rfl, Nat.le_of_ble_eq_true rfl⟩) rfl hl.1 rfl (Nat.le_of_ble_eq_true rfl) dX1_insertAuthors_8 (Nat.le_of_ble_eq_true rfl) (Nat.le_of_ble_eq_true rfl) (fun r2 M1 H locs hp hw hS hz hk => ?_)
  rw [hp.2] at hw
  rw [hp.1]
  refine lv_icmp_ge (tgt := 71) hx hb dX1_insertAuthors_11 (by decide) (fun c_11 => ?_) (fun c_11 => ?_)
  · exact m_vret X hK hw hS (by rfl) (by omega) (by omega) dX1_insertAuthors_71
  · exact (by exfalso; exact c_11 (by decide))
set_option maxHeartbeats 4000000 in
set_option maxRecDepth 100000 in
theorem c_X1_insertBooks_0 (l : Launch) (G : gG) (dce sz : Nat) (M : gM) (h hs ta tb j la lb nb : Nat) (hF : M h = some (oF hs ta tb j)) (hv : M hs = some (oS la lb nb)) (hla : M la = some (oL 0 dce 0)) (hlb : M lb = some (oL 0 dce 0)) : mV l yX1_insertBooks wsX1_insertBooks ({ frames := 2, cells := 0, slots := 0, locals := 42 }) G dce sz M [.ref h] (fun M' => M' = M) (0) (0) := by
  have hF : M h = some (.inr (2, [.ref hs, .ref ta, .ref tb, .ref j])) := hF
  have hv : M hs = some (.inr (5, [.ref la, .ref lb, .ref nb])) := hv
  refine wMet (Qc := QV G _) (cc := cX1_insertBooks) (maxL := 3) (ret := none) (by decide) rfl (Nat.le_of_ble_eq_true rfl) ?_
  intro p e s m below meth c A ls X hnm hw hK hZ hA hS hsz eA hl
  obtain ⟨hx, hb, hr, hts, hown, hlk, hml⟩ := id X
  have hl : lv_has ls 3 [(0, .ref h)] := hl
  have iX1 : ∀ w ∈ wsX10, w ∈ wsX1_insertBooks := by decide +kernel
  refine lv_iconst (v := 0) hx hb dX1_insertBooks_0 (by decide) ?_
  refine lv_istore_n (lv' := [(1, .int 0), (0, .ref h)]) hx hb dX1_insertBooks_1 rfl hl (by decide) rfl (fun ls hl => ?_)
  refine lv_iload_n hx hb dX1_insertBooks_2 rfl (lv_at hl 0 rfl) ?_
  refine lv_aload_n hx hb dX1_insertBooks_3 rfl (lv_at hl 1 rfl) ?_
  refine m_get X iX1 hK hw hF rfl 0 (by decide) (ref := "ObjectMapper$Flush") (by decide +kernel) (Or.inl rfl) rfl dX1_insertBooks_4 ?_
  refine lv_iconst (v := 1) hx hb dX1_insertBooks_7 (by decide) ?_
  refine m_callVi X (ci := 5) rfl hv hK hw hZ hS hA (As := [.int 1]) (rest := [.int 0]) (c_X4_sizeOf l G dce _ M hs la lb nb hv 1 0 0 dce (by rw [if_neg (by decide)]; exact hlb)) (cwV 1 hts gX1_insertBooks_X4_sizeOf rfl rfl rfl (by decide +kernel) ⟨Nat.le_of_ble_eq_true rfl, Nat.le_of_ble_eq_true rfl⟩) rfl hl.1 rfl (Nat.le_of_ble_eq_true rfl) dX1_insertBooks_8 (Nat.le_of_ble_eq_true rfl) (Nat.le_of_ble_eq_true rfl) (fun r2 M1 H locs hp hw hS hz hk => ?_)
  rw [hp.2] at hw
  rw [hp.1]
  refine lv_icmp_ge (tgt := 48) hx hb dX1_insertBooks_11 (by decide) (fun c_11 => ?_) (fun c_11 => ?_)
  · exact m_vret X hK hw hS (by rfl) (by omega) (by omega) dX1_insertBooks_48
  · exact (by exfalso; exact c_11 (by decide))
set_option maxHeartbeats 4000000 in
set_option maxRecDepth 100000 in
theorem c_X1_updateChanged_0 (l : Launch) (G : gG) (dce sz : Nat) (M : gM) (h hs ta tb j la lb nb : Nat) (hF : M h = some (oF hs ta tb j)) (hv : M hs = some (oS la lb nb)) (hla : M la = some (oL 0 dce 0)) (hlb : M lb = some (oL 0 dce 0)) (kd : Int32) : mV l yX1_updateChanged wsX1_updateChanged ({ frames := 2, cells := 0, slots := 0, locals := 42 }) G dce sz M [.ref h, .int kd] (fun M' => M' = M) (0) (0) := by
  have hF : M h = some (.inr (2, [.ref hs, .ref ta, .ref tb, .ref j])) := hF
  have hv : M hs = some (.inr (5, [.ref la, .ref lb, .ref nb])) := hv
  refine wMet (Qc := QV G _) (cc := cX1_updateChanged) (maxL := 5) (ret := none) (by decide) rfl (Nat.le_of_ble_eq_true rfl) ?_
  intro p e s m below meth c A ls X hnm hw hK hZ hA hS hsz eA hl
  obtain ⟨hx, hb, hr, hts, hown, hlk, hml⟩ := id X
  have hl : lv_has ls 5 [(0, .ref h), (1, .int kd)] := hl
  have iX1 : ∀ w ∈ wsX10, w ∈ wsX1_updateChanged := by decide +kernel
  refine lv_iconst (v := 0) hx hb dX1_updateChanged_0 (by decide) ?_
  refine lv_istore_n (lv' := [(2, .int 0), (0, .ref h), (1, .int kd)]) hx hb dX1_updateChanged_1 rfl hl (by decide) rfl (fun ls hl => ?_)
  refine lv_iload_n hx hb dX1_updateChanged_2 rfl (lv_at hl 0 rfl) ?_
  refine lv_aload_n hx hb dX1_updateChanged_3 rfl (lv_at hl 1 rfl) ?_
  refine m_get X iX1 hK hw hF rfl 0 (by decide) (ref := "ObjectMapper$Flush") (by decide +kernel) (Or.inl rfl) rfl dX1_updateChanged_4 ?_
  refine lv_iload_n hx hb dX1_updateChanged_7 rfl (lv_at hl 2 rfl) ?_
  refine m_callVi X (ci := 5) rfl hv hK hw hZ hS hA (As := [.int kd]) (rest := [.int 0]) (c_X4_sizeOf l G dce _ M hs la lb nb hv kd 0 0 dce (by split <;> assumption)) (cwV 1 hts gX1_updateChanged_X4_sizeOf rfl rfl rfl (by decide +kernel) ⟨Nat.le_of_ble_eq_true rfl, Nat.le_of_ble_eq_true rfl⟩) rfl hl.1 rfl (Nat.le_of_ble_eq_true rfl) dX1_updateChanged_8 (Nat.le_of_ble_eq_true rfl) (Nat.le_of_ble_eq_true rfl) (fun r2 M1 H locs hp hw hS hz hk => ?_)
  rw [hp.2] at hw
  rw [hp.1]
  refine lv_icmp_ge (tgt := 77) hx hb dX1_updateChanged_11 (by decide) (fun c_11 => ?_) (fun c_11 => ?_)
  · exact m_vret X hK hw hS (by rfl) (by omega) (by omega) dX1_updateChanged_77
  · exact (by exfalso; exact c_11 (by decide))
set_option maxHeartbeats 4000000 in
set_option maxRecDepth 100000 in
theorem c_X1_deleteStruckOut_0 (l : Launch) (G : gG) (dce sz : Nat) (M : gM) (h hs ta tb j la lb nb : Nat) (hF : M h = some (oF hs ta tb j)) (hv : M hs = some (oS la lb nb)) (hla : M la = some (oL 0 dce 0)) (hlb : M lb = some (oL 0 dce 0)) (kd : Int32) : mV l yX1_deleteStruckOut wsX1_deleteStruckOut ({ frames := 2, cells := 0, slots := 0, locals := 42 }) G dce sz M [.ref h, .int kd] (fun M' => M' = M) (0) (0) := by
  have hF : M h = some (.inr (2, [.ref hs, .ref ta, .ref tb, .ref j])) := hF
  have hv : M hs = some (.inr (5, [.ref la, .ref lb, .ref nb])) := hv
  refine wMet (Qc := QV G _) (cc := cX1_deleteStruckOut) (maxL := 4) (ret := none) (by decide) rfl (Nat.le_of_ble_eq_true rfl) ?_
  intro p e s m below meth c A ls X hnm hw hK hZ hA hS hsz eA hl
  obtain ⟨hx, hb, hr, hts, hown, hlk, hml⟩ := id X
  have hl : lv_has ls 4 [(0, .ref h), (1, .int kd)] := hl
  have iX1 : ∀ w ∈ wsX10, w ∈ wsX1_deleteStruckOut := by decide +kernel
  refine lv_iconst (v := 0) hx hb dX1_deleteStruckOut_0 (by decide) ?_
  refine lv_istore_n (lv' := [(2, .int 0), (0, .ref h), (1, .int kd)]) hx hb dX1_deleteStruckOut_1 rfl hl (by decide) rfl (fun ls hl => ?_)
  refine lv_iload_n hx hb dX1_deleteStruckOut_2 rfl (lv_at hl 0 rfl) ?_
  refine lv_aload_n hx hb dX1_deleteStruckOut_3 rfl (lv_at hl 1 rfl) ?_
  refine m_get X iX1 hK hw hF rfl 0 (by decide) (ref := "ObjectMapper$Flush") (by decide +kernel) (Or.inl rfl) rfl dX1_deleteStruckOut_4 ?_
  refine lv_iload_n hx hb dX1_deleteStruckOut_7 rfl (lv_at hl 2 rfl) ?_
  refine m_callVi X (ci := 5) rfl hv hK hw hZ hS hA (As := [.int kd]) (rest := [.int 0]) (c_X4_sizeOf l G dce _ M hs la lb nb hv kd 0 0 dce (by split <;> assumption)) (cwV 1 hts gX1_deleteStruckOut_X4_sizeOf rfl rfl rfl (by decide +kernel) ⟨Nat.le_of_ble_eq_true rfl, Nat.le_of_ble_eq_true rfl⟩) rfl hl.1 rfl (Nat.le_of_ble_eq_true rfl) dX1_deleteStruckOut_8 (Nat.le_of_ble_eq_true rfl) (Nat.le_of_ble_eq_true rfl) (fun r2 M1 H locs hp hw hS hz hk => ?_)
  rw [hp.2] at hw
  rw [hp.1]
  refine lv_icmp_ge (tgt := 64) hx hb dX1_deleteStruckOut_11 (by decide) (fun c_11 => ?_) (fun c_11 => ?_)
  · exact m_vret X hK hw hS (by rfl) (by omega) (by omega) dX1_deleteStruckOut_64
  · exact (by exfalso; exact c_11 (by decide))
set_option maxHeartbeats 4000000 in
set_option maxRecDepth 100000 in
theorem c_X1_clashes_0 (l : Launch) (G : gG) (dce sz : Nat) (M : gM) (h hs ta tb j la lb nb : Nat) (hF : M h = some (oF hs ta tb j)) (hv : M hs = some (oS la lb nb)) (hla : M la = some (oL 0 dce 0)) (hlb : M lb = some (oL 0 dce 0)) : mI l yX1_clashes wsX1_clashes ({ frames := 3, cells := 0, slots := 0, locals := 64 }) G dce sz M [.ref h] (fun r M' => r = 0 ∧ M' = M) (0) (0) := by
  have hF : M h = some (.inr (2, [.ref hs, .ref ta, .ref tb, .ref j])) := hF
  have hv : M hs = some (.inr (5, [.ref la, .ref lb, .ref nb])) := hv
  refine wMet (Qc := QI G _) (cc := cX1_clashes) (maxL := 1) (ret := (some .boolean)) (by decide) rfl (Nat.le_of_ble_eq_true rfl) ?_
  intro p e s m below meth c A ls X hnm hw hK hZ hA hS hsz eA hl
  obtain ⟨hx, hb, hr, hts, hown, hlk, hml⟩ := id X
  have hl : lv_has ls 1 [(0, .ref h)] := hl
  refine lv_aload_n hx hb dX1_clashes_0 rfl (lv_at hl 0 rfl) ?_
  refine lv_iconst (v := 0) hx hb dX1_clashes_1 (by decide) ?_
  refine m_callVi X (ci := 2) rfl hF hK hw hZ hS hA (As := [.int 0]) (rest := []) (c_X1_clashesIn_0 l G dce _ M h hs ta tb j la lb nb hF hv hla hlb 0) (cwV 1 hts gX1_clashes_X1_clashesIn rfl rfl rfl (by decide +kernel) ⟨Nat.le_of_ble_eq_true rfl, Nat.le_of_ble_eq_true rfl⟩) rfl hl.1 rfl (Nat.le_of_ble_eq_true rfl) dX1_clashes_2 (Nat.le_of_ble_eq_true rfl) (Nat.le_of_ble_eq_true rfl) (fun r2 M1 H locs hp hw hS hz hk => ?_)
  rw [hp.2] at hw
  rw [hp.1]
  refine lv_if_ne (tgt := 16) hx hb dX1_clashes_5 (by decide) (fun c_5 => ?_) (fun c_5 => ?_)
  · refine lv_iconst (v := 1) hx hb dX1_clashes_16 (by decide) ?_
    refine lv_goto (tgt := 21) hx hb dX1_clashes_17 (by decide) ?_
    exact (by exfalso; first | exact c_5 rfl | exact c_12 rfl | exact c_5 (by decide) | simp_all)
  · refine lv_aload_n hx hb dX1_clashes_8 rfl (lv_at hl 0 rfl) ?_
    refine lv_iconst (v := 1) hx hb dX1_clashes_9 (by decide) ?_
    refine m_callVi X (ci := 2) rfl hF hK hw hZ hS hA (As := [.int 1]) (rest := []) (c_X1_clashesIn_0 l G dce _ M h hs ta tb j la lb nb hF hv hla hlb 1) (cwV 1 hts gX1_clashes_X1_clashesIn rfl rfl rfl (by decide +kernel) ⟨Nat.le_of_ble_eq_true rfl, Nat.le_of_ble_eq_true rfl⟩) rfl hl.1 rfl (Nat.le_of_ble_eq_true rfl) dX1_clashes_10 (Nat.le_of_ble_eq_true rfl) (Nat.le_of_ble_eq_true rfl) (fun r4 M3 H locs hp hw hS hz hk => ?_)
    rw [hp.2] at hw
    rw [hp.1]
    refine lv_if_eq (tgt := 20) hx hb dX1_clashes_13 (by decide) (fun c_13 => ?_) (fun c_13 => ?_)
    · refine lv_iconst (v := 0) hx hb dX1_clashes_20 (by decide) ?_
      exact m_zret X (by decide) hK hw hS (by exact ⟨rfl, rfl⟩) (by omega) (by omega) dX1_clashes_21
    · refine lv_iconst (v := 1) hx hb dX1_clashes_16 (by decide) ?_
      refine lv_goto (tgt := 21) hx hb dX1_clashes_17 (by decide) ?_
      exact (by exfalso; first | exact c_5 rfl | exact c_12 rfl | exact c_5 (by decide) | simp_all)
set_option maxHeartbeats 4000000 in
set_option maxRecDepth 100000 in
theorem c_X1_leavesDanglingReference_0 (l : Launch) (G : gG) (dce sz : Nat) (M : gM) (h hs ta tb j la lb nb : Nat) (hF : M h = some (oF hs ta tb j)) (hv : M hs = some (oS la lb nb)) (hla : M la = some (oL 0 dce 0)) (hlb : M lb = some (oL 0 dce 0)) : mI l yX1_leavesDanglingReference wsX1_leavesDanglingReference ({ frames := 3, cells := 0, slots := 0, locals := 65 }) G dce sz M [.ref h] (fun r M' => r = 0 ∧ M' = M) (0) (0) := by
  have hF : M h = some (.inr (2, [.ref hs, .ref ta, .ref tb, .ref j])) := hF
  have hv : M hs = some (.inr (5, [.ref la, .ref lb, .ref nb])) := hv
  refine wMet (Qc := QI G _) (cc := cX1_leavesDanglingReference) (maxL := 1) (ret := (some .boolean)) (by decide) rfl (Nat.le_of_ble_eq_true rfl) ?_
  intro p e s m below meth c A ls X hnm hw hK hZ hA hS hsz eA hl
  obtain ⟨hx, hb, hr, hts, hown, hlk, hml⟩ := id X
  have hl : lv_has ls 1 [(0, .ref h)] := hl
  refine lv_aload_n hx hb dX1_leavesDanglingReference_0 rfl (lv_at hl 0 rfl) ?_
  refine lv_iconst (v := 0) hx hb dX1_leavesDanglingReference_1 (by decide) ?_
  refine m_callVi X (ci := 2) rfl hF hK hw hZ hS hA (As := [.int 0]) (rest := []) (c_X1_leavesDanglingIn_0 l G dce _ M h hs ta tb j la lb nb hF hv hla hlb 0) (cwV 1 hts gX1_leavesDanglingReference_X1_leavesDanglingIn rfl rfl rfl (by decide +kernel) ⟨Nat.le_of_ble_eq_true rfl, Nat.le_of_ble_eq_true rfl⟩) rfl hl.1 rfl (Nat.le_of_ble_eq_true rfl) dX1_leavesDanglingReference_2 (Nat.le_of_ble_eq_true rfl) (Nat.le_of_ble_eq_true rfl) (fun r2 M1 H locs hp hw hS hz hk => ?_)
  rw [hp.2] at hw
  rw [hp.1]
  refine lv_if_ne (tgt := 16) hx hb dX1_leavesDanglingReference_5 (by decide) (fun c_5 => ?_) (fun c_5 => ?_)
  · refine lv_iconst (v := 1) hx hb dX1_leavesDanglingReference_16 (by decide) ?_
    refine lv_goto (tgt := 21) hx hb dX1_leavesDanglingReference_17 (by decide) ?_
    exact (by exfalso; first | exact c_5 rfl | exact c_12 rfl | exact c_5 (by decide) | simp_all)
  · refine lv_aload_n hx hb dX1_leavesDanglingReference_8 rfl (lv_at hl 0 rfl) ?_
    refine lv_iconst (v := 1) hx hb dX1_leavesDanglingReference_9 (by decide) ?_
    refine m_callVi X (ci := 2) rfl hF hK hw hZ hS hA (As := [.int 1]) (rest := []) (c_X1_leavesDanglingIn_0 l G dce _ M h hs ta tb j la lb nb hF hv hla hlb 1) (cwV 1 hts gX1_leavesDanglingReference_X1_leavesDanglingIn rfl rfl rfl (by decide +kernel) ⟨Nat.le_of_ble_eq_true rfl, Nat.le_of_ble_eq_true rfl⟩) rfl hl.1 rfl (Nat.le_of_ble_eq_true rfl) dX1_leavesDanglingReference_10 (Nat.le_of_ble_eq_true rfl) (Nat.le_of_ble_eq_true rfl) (fun r4 M3 H locs hp hw hS hz hk => ?_)
    rw [hp.2] at hw
    rw [hp.1]
    refine lv_if_eq (tgt := 20) hx hb dX1_leavesDanglingReference_13 (by decide) (fun c_13 => ?_) (fun c_13 => ?_)
    · refine lv_iconst (v := 0) hx hb dX1_leavesDanglingReference_20 (by decide) ?_
      exact m_zret X (by decide) hK hw hS (by exact ⟨rfl, rfl⟩) (by omega) (by omega) dX1_leavesDanglingReference_21
    · refine lv_iconst (v := 1) hx hb dX1_leavesDanglingReference_16 (by decide) ?_
      refine lv_goto (tgt := 21) hx hb dX1_leavesDanglingReference_17 (by decide) ?_
      exact (by exfalso; first | exact c_5 rfl | exact c_12 rfl | exact c_5 (by decide) | simp_all)
set_option maxHeartbeats 4000000 in
set_option maxRecDepth 100000 in
theorem c_X1_doWrites_0 (l : Launch) (G : gG) (dce sz : Nat) (M : gM) (h hs ta tb j la lb nb : Nat) (hF : M h = some (oF hs ta tb j)) (hv : M hs = some (oS la lb nb)) (hla : M la = some (oL 0 dce 0)) (hlb : M lb = some (oL 0 dce 0)) : mV l yX1_doWrites wsX1_doWrites ({ frames := 3, cells := 0, slots := 0, locals := 66 }) G dce sz M [.ref h] (fun M' => M' = M) (0) (0) := by
  have hF : M h = some (.inr (2, [.ref hs, .ref ta, .ref tb, .ref j])) := hF
  have hv : M hs = some (.inr (5, [.ref la, .ref lb, .ref nb])) := hv
  refine wMet (Qc := QV G _) (cc := cX1_doWrites) (maxL := 1) (ret := none) (by decide) rfl (Nat.le_of_ble_eq_true rfl) ?_
  intro p e s m below meth c A ls X hnm hw hK hZ hA hS hsz eA hl
  obtain ⟨hx, hb, hr, hts, hown, hlk, hml⟩ := id X
  have hl : lv_has ls 1 [(0, .ref h)] := hl
  refine lv_aload_n hx hb dX1_doWrites_0 rfl (lv_at hl 0 rfl) ?_
  refine m_callVv X (ci := 2) rfl hF hK hw hZ hS hA (As := []) (rest := []) (c_X1_insertAuthors_0 l G dce _ M h hs ta tb j la lb nb hF hv hla hlb) (cwV 0 hts gX1_doWrites_X1_insertAuthors rfl rfl rfl (by decide +kernel) ⟨Nat.le_of_ble_eq_true rfl, Nat.le_of_ble_eq_true rfl⟩) rfl hl.1 rfl (Nat.le_of_ble_eq_true rfl) dX1_doWrites_1 (Nat.le_of_ble_eq_true rfl) (Nat.le_of_ble_eq_true rfl) (fun M1 H locs hp hw hS hz hk => ?_)
  rw [hp] at hw
  refine lv_aload_n hx hb dX1_doWrites_4 rfl (lv_at hl 0 rfl) ?_
  refine m_callVv X (ci := 2) rfl hF hK hw hZ hS hA (As := []) (rest := []) (c_X1_insertBooks_0 l G dce _ M h hs ta tb j la lb nb hF hv hla hlb) (cwV 0 hts gX1_doWrites_X1_insertBooks rfl rfl rfl (by decide +kernel) ⟨Nat.le_of_ble_eq_true rfl, Nat.le_of_ble_eq_true rfl⟩) rfl hl.1 rfl (Nat.le_of_ble_eq_true rfl) dX1_doWrites_5 (Nat.le_of_ble_eq_true rfl) (Nat.le_of_ble_eq_true rfl) (fun M2 H locs hp hw hS hz hk => ?_)
  rw [hp] at hw
  refine lv_aload_n hx hb dX1_doWrites_8 rfl (lv_at hl 0 rfl) ?_
  refine lv_iconst (v := 0) hx hb dX1_doWrites_9 (by decide) ?_
  refine m_callVv X (ci := 2) rfl hF hK hw hZ hS hA (As := [.int 0]) (rest := []) (c_X1_updateChanged_0 l G dce _ M h hs ta tb j la lb nb hF hv hla hlb 0) (cwV 1 hts gX1_doWrites_X1_updateChanged rfl rfl rfl (by decide +kernel) ⟨Nat.le_of_ble_eq_true rfl, Nat.le_of_ble_eq_true rfl⟩) rfl hl.1 rfl (Nat.le_of_ble_eq_true rfl) dX1_doWrites_10 (Nat.le_of_ble_eq_true rfl) (Nat.le_of_ble_eq_true rfl) (fun M3 H locs hp hw hS hz hk => ?_)
  rw [hp] at hw
  refine lv_aload_n hx hb dX1_doWrites_13 rfl (lv_at hl 0 rfl) ?_
  refine lv_iconst (v := 1) hx hb dX1_doWrites_14 (by decide) ?_
  refine m_callVv X (ci := 2) rfl hF hK hw hZ hS hA (As := [.int 1]) (rest := []) (c_X1_updateChanged_0 l G dce _ M h hs ta tb j la lb nb hF hv hla hlb 1) (cwV 1 hts gX1_doWrites_X1_updateChanged rfl rfl rfl (by decide +kernel) ⟨Nat.le_of_ble_eq_true rfl, Nat.le_of_ble_eq_true rfl⟩) rfl hl.1 rfl (Nat.le_of_ble_eq_true rfl) dX1_doWrites_15 (Nat.le_of_ble_eq_true rfl) (Nat.le_of_ble_eq_true rfl) (fun M4 H locs hp hw hS hz hk => ?_)
  rw [hp] at hw
  refine lv_aload_n hx hb dX1_doWrites_18 rfl (lv_at hl 0 rfl) ?_
  refine lv_iconst (v := 1) hx hb dX1_doWrites_19 (by decide) ?_
  refine m_callVv X (ci := 2) rfl hF hK hw hZ hS hA (As := [.int 1]) (rest := []) (c_X1_deleteStruckOut_0 l G dce _ M h hs ta tb j la lb nb hF hv hla hlb 1) (cwV 1 hts gX1_doWrites_X1_deleteStruckOut rfl rfl rfl (by decide +kernel) ⟨Nat.le_of_ble_eq_true rfl, Nat.le_of_ble_eq_true rfl⟩) rfl hl.1 rfl (Nat.le_of_ble_eq_true rfl) dX1_doWrites_20 (Nat.le_of_ble_eq_true rfl) (Nat.le_of_ble_eq_true rfl) (fun M5 H locs hp hw hS hz hk => ?_)
  rw [hp] at hw
  refine lv_aload_n hx hb dX1_doWrites_23 rfl (lv_at hl 0 rfl) ?_
  refine lv_iconst (v := 0) hx hb dX1_doWrites_24 (by decide) ?_
  refine m_callVv X (ci := 2) rfl hF hK hw hZ hS hA (As := [.int 0]) (rest := []) (c_X1_deleteStruckOut_0 l G dce _ M h hs ta tb j la lb nb hF hv hla hlb 0) (cwV 1 hts gX1_doWrites_X1_deleteStruckOut rfl rfl rfl (by decide +kernel) ⟨Nat.le_of_ble_eq_true rfl, Nat.le_of_ble_eq_true rfl⟩) rfl hl.1 rfl (Nat.le_of_ble_eq_true rfl) dX1_doWrites_25 (Nat.le_of_ble_eq_true rfl) (Nat.le_of_ble_eq_true rfl) (fun M6 H locs hp hw hS hz hk => ?_)
  rw [hp] at hw
  exact m_vret X hK hw hS (by rfl) (by omega) (by omega) dX1_doWrites_28
set_option maxHeartbeats 4000000 in
set_option maxRecDepth 100000 in
theorem c_X6_known_0 (l : Launch) (G : gG) (dce sz : Nat) (M : gM) (hlt : l.stackTraces = false) (x : Nat) (ad : Nat → Nat) (hc : cS0 G dce M x ad) (si : Int32) : xI l yX6_known wsX6_known ({ frames := 7, cells := 1, slots := 6, locals := 103 }) G dce sz M [.ref x, .int si] (fun r M' => r = 0 ∧ sOK si = true ∧ M' = M) (fun E M' => (E = xIOB ∧ sOK si = false) ∧ M' = M) (1) (6) := by
  obtain ⟨hX, hT, ⟨f, hsa, hf⟩, hS3, ⟨fa, fr, hj, hja, hjr⟩, hdis⟩ := id hc
  have hX : M x = some (.inr (7, [.ref (ad 0), .ref (ad 1), .ref (ad 2), .ref (ad 3)])) := hX
  have hj : M (ad 2) = some (.inr (3, [.int 0, .ref (ad 50), .ref (ad 51)])) := hj
  refine xMet (Qc := QI G _) (XC := QX G _) (cc := cX6_known) (maxL := 3) (ret := (some .int)) (by decide) rfl (Nat.le_of_ble_eq_true rfl) ?_
  intro p e s m below meth c A ls X hno hnm hw hK hZ hA hS hsz eA hl
  obtain ⟨hx, hb, hr, hts, hown, hlk, hml⟩ := id X
  have hl : lv_has ls 3 [(0, .ref x), (1, .int si)] := hl
  refine lv_aload_n hx hb dX6_known_0 rfl (lv_at hl 0 rfl) ?_
  refine lv_iload_n hx hb dX6_known_1 rfl (lv_at hl 1 rfl) ?_
  refine x_callVr X (ci := 7) rfl hX hK hw hZ hS hA (As := [.int si]) (rest := []) (c_X6_sessionAt l G dce _ M hlt x (ad 0) (ad 1) (ad 2) (ad 3) hX f (fun i => ad (4 + i)) hsa hf si) (cwV 1 hts gX6_known_X6_sessionAt rfl rfl rfl (by decide +kernel) ⟨Nat.le_of_ble_eq_true rfl, Nat.le_of_ble_eq_true rfl⟩) rfl hl.1 rfl (Nat.le_of_ble_eq_true rfl) dX6_known_2 (Nat.le_of_ble_eq_true rfl) (Nat.le_of_ble_eq_true rfl) (fun E ce q9 M1 H locs hp hw hS hz hk hce hcv hcl9 => ?_) (fun r2 M1 H locs hp hw hS hz hk => ?_)
  · exact m_out X hno hK hw hS hce hcv hcl9 (by omega) (by omega) (⟨⟨hp.1, hp.2.1⟩, hp.2.2⟩)
  obtain ⟨⟨i, hi, ei, er⟩, hso, eM⟩ := hp
  have er : r2 = ad (4 + i) := er
  subst er
  rw [eM] at hw
  obtain ⟨hs0, hla, hlb, hnb⟩ := hS3 i hi
  have hs0 : M (ad (4 + i)) = some (.inr (5, [.ref (ad (12 + 2 * i)), .ref (ad (13 + 2 * i)), .ref (ad (40 + i))])) := hs0
  refine lv_astore_n (lv' := [(2, .ref (ad (4 + i))), (0, .ref x), (1, .int si)]) hx hb dX6_known_5 rfl hl (by decide) rfl (fun ls hl => ?_)
  refine lv_aload_n hx hb dX6_known_6 rfl (lv_at hl 0 rfl) ?_
  refine lv_iconst (v := 0) hx hb dX6_known_7 (by decide) ?_
  refine m_callVi X (ci := 5) rfl hs0 hK hw hZ hS hA (As := [.int 0]) (rest := []) (c_X4_countLive_0 l G dce _ M (ad (4 + i)) (ad (12 + 2 * i)) (ad (13 + 2 * i)) (ad (40 + i)) hs0 0 0 dce (by rw [if_pos rfl]; exact hla)) (cwV 1 hts gX6_known_X4_countLive rfl rfl rfl (by decide +kernel) ⟨Nat.le_of_ble_eq_true rfl, Nat.le_of_ble_eq_true rfl⟩) rfl hl.1 rfl (Nat.le_of_ble_eq_true rfl) dX6_known_8 (Nat.le_of_ble_eq_true rfl) (Nat.le_of_ble_eq_true rfl) (fun r4 M3 H locs hp hw hS hz hk => ?_)
  rw [hp.2] at hw
  rw [hp.1]
  refine lv_aload_n hx hb dX6_known_11 rfl (lv_at hl 0 rfl) ?_
  refine lv_iconst (v := 1) hx hb dX6_known_12 (by decide) ?_
  refine m_callVi X (ci := 5) rfl hs0 hK hw hZ hS hA (As := [.int 1]) (rest := [.int 0]) (c_X4_countLive_0 l G dce _ M (ad (4 + i)) (ad (12 + 2 * i)) (ad (13 + 2 * i)) (ad (40 + i)) hs0 1 0 dce (by rw [if_neg (by decide)]; exact hlb)) (cwV 1 hts gX6_known_X4_countLive rfl rfl rfl (by decide +kernel) ⟨Nat.le_of_ble_eq_true rfl, Nat.le_of_ble_eq_true rfl⟩) rfl hl.1 rfl (Nat.le_of_ble_eq_true rfl) dX6_known_13 (Nat.le_of_ble_eq_true rfl) (Nat.le_of_ble_eq_true rfl) (fun r6 M5 H locs hp hw hS hz hk => ?_)
  rw [hp.2] at hw
  rw [hp.1]
  refine lv_iadd hx hb dX6_known_16 ?_
  refine vx_ret ?_
  exact m_iret X hK hw hS (by refine ⟨by decide, hso, rfl⟩) (by omega) (by omega) dX6_known_17
set_option maxHeartbeats 4000000 in
set_option maxRecDepth 100000 in
theorem c_X6_dirty_0 (l : Launch) (G : gG) (dce sz : Nat) (M : gM) (hlt : l.stackTraces = false) (x : Nat) (ad : Nat → Nat) (hc : cS0 G dce M x ad) (si : Int32) : xI l yX6_dirty wsX6_dirty ({ frames := 7, cells := 1, slots := 6, locals := 103 }) G dce sz M [.ref x, .int si] (fun r M' => r = 0 ∧ sOK si = true ∧ M' = M) (fun E M' => (E = xIOB ∧ sOK si = false) ∧ M' = M) (1) (6) := by
  obtain ⟨hX, hT, ⟨f, hsa, hf⟩, hS3, ⟨fa, fr, hj, hja, hjr⟩, hdis⟩ := id hc
  have hX : M x = some (.inr (7, [.ref (ad 0), .ref (ad 1), .ref (ad 2), .ref (ad 3)])) := hX
  have hj : M (ad 2) = some (.inr (3, [.int 0, .ref (ad 50), .ref (ad 51)])) := hj
  refine xMet (Qc := QI G _) (XC := QX G _) (cc := cX6_dirty) (maxL := 3) (ret := (some .int)) (by decide) rfl (Nat.le_of_ble_eq_true rfl) ?_
  intro p e s m below meth c A ls X hno hnm hw hK hZ hA hS hsz eA hl
  obtain ⟨hx, hb, hr, hts, hown, hlk, hml⟩ := id X
  have hl : lv_has ls 3 [(0, .ref x), (1, .int si)] := hl
  refine lv_aload_n hx hb dX6_dirty_0 rfl (lv_at hl 0 rfl) ?_
  refine lv_iload_n hx hb dX6_dirty_1 rfl (lv_at hl 1 rfl) ?_
  refine x_callVr X (ci := 7) rfl hX hK hw hZ hS hA (As := [.int si]) (rest := []) (c_X6_sessionAt l G dce _ M hlt x (ad 0) (ad 1) (ad 2) (ad 3) hX f (fun i => ad (4 + i)) hsa hf si) (cwV 1 hts gX6_dirty_X6_sessionAt rfl rfl rfl (by decide +kernel) ⟨Nat.le_of_ble_eq_true rfl, Nat.le_of_ble_eq_true rfl⟩) rfl hl.1 rfl (Nat.le_of_ble_eq_true rfl) dX6_dirty_2 (Nat.le_of_ble_eq_true rfl) (Nat.le_of_ble_eq_true rfl) (fun E ce q9 M1 H locs hp hw hS hz hk hce hcv hcl9 => ?_) (fun r2 M1 H locs hp hw hS hz hk => ?_)
  · exact m_out X hno hK hw hS hce hcv hcl9 (by omega) (by omega) (⟨⟨hp.1, hp.2.1⟩, hp.2.2⟩)
  obtain ⟨⟨i, hi, ei, er⟩, hso, eM⟩ := hp
  have er : r2 = ad (4 + i) := er
  subst er
  rw [eM] at hw
  obtain ⟨hs0, hla, hlb, hnb⟩ := hS3 i hi
  have hs0 : M (ad (4 + i)) = some (.inr (5, [.ref (ad (12 + 2 * i)), .ref (ad (13 + 2 * i)), .ref (ad (40 + i))])) := hs0
  refine lv_astore_n (lv' := [(2, .ref (ad (4 + i))), (0, .ref x), (1, .int si)]) hx hb dX6_dirty_5 rfl hl (by decide) rfl (fun ls hl => ?_)
  refine lv_aload_n hx hb dX6_dirty_6 rfl (lv_at hl 0 rfl) ?_
  refine lv_iconst (v := 0) hx hb dX6_dirty_7 (by decide) ?_
  refine m_callVi X (ci := 5) rfl hs0 hK hw hZ hS hA (As := [.int 0]) (rest := []) (c_X4_countLiveAndDirty_0 l G dce _ M (ad (4 + i)) (ad (12 + 2 * i)) (ad (13 + 2 * i)) (ad (40 + i)) hs0 0 0 dce (by rw [if_pos rfl]; exact hla)) (cwV 1 hts gX6_dirty_X4_countLiveAndDirty rfl rfl rfl (by decide +kernel) ⟨Nat.le_of_ble_eq_true rfl, Nat.le_of_ble_eq_true rfl⟩) rfl hl.1 rfl (Nat.le_of_ble_eq_true rfl) dX6_dirty_8 (Nat.le_of_ble_eq_true rfl) (Nat.le_of_ble_eq_true rfl) (fun r4 M3 H locs hp hw hS hz hk => ?_)
  rw [hp.2] at hw
  rw [hp.1]
  refine lv_aload_n hx hb dX6_dirty_11 rfl (lv_at hl 0 rfl) ?_
  refine lv_iconst (v := 1) hx hb dX6_dirty_12 (by decide) ?_
  refine m_callVi X (ci := 5) rfl hs0 hK hw hZ hS hA (As := [.int 1]) (rest := [.int 0]) (c_X4_countLiveAndDirty_0 l G dce _ M (ad (4 + i)) (ad (12 + 2 * i)) (ad (13 + 2 * i)) (ad (40 + i)) hs0 1 0 dce (by rw [if_neg (by decide)]; exact hlb)) (cwV 1 hts gX6_dirty_X4_countLiveAndDirty rfl rfl rfl (by decide +kernel) ⟨Nat.le_of_ble_eq_true rfl, Nat.le_of_ble_eq_true rfl⟩) rfl hl.1 rfl (Nat.le_of_ble_eq_true rfl) dX6_dirty_13 (Nat.le_of_ble_eq_true rfl) (Nat.le_of_ble_eq_true rfl) (fun r6 M5 H locs hp hw hS hz hk => ?_)
  rw [hp.2] at hw
  rw [hp.1]
  refine lv_iadd hx hb dX6_dirty_16 ?_
  refine vx_ret ?_
  exact m_iret X hK hw hS (by refine ⟨by decide, hso, rfl⟩) (by omega) (by omega) dX6_dirty_17
set_option maxHeartbeats 4000000 in
set_option maxRecDepth 100000 in
theorem c_X6_clear_0 (l : Launch) (G : gG) (dce sz : Nat) (M : gM) (hlt : l.stackTraces = false) (x : Nat) (ad : Nat → Nat) (hc : cS0 G dce M x ad) (si : Int32) : xI l yX6_clear wsX6_clear ({ frames := 7, cells := 1, slots := 6, locals := 103 }) G dce sz M [.ref x, .int si] (fun r M' => r = 0 ∧ sOK si = true ∧ M' = M) (fun E M' => (E = xIOB ∧ sOK si = false) ∧ M' = M) (1) (6) := by
  obtain ⟨hX, hT, ⟨f, hsa, hf⟩, hS3, ⟨fa, fr, hj, hja, hjr⟩, hdis⟩ := id hc
  have hX : M x = some (.inr (7, [.ref (ad 0), .ref (ad 1), .ref (ad 2), .ref (ad 3)])) := hX
  have hj : M (ad 2) = some (.inr (3, [.int 0, .ref (ad 50), .ref (ad 51)])) := hj
  refine xMet (Qc := QI G _) (XC := QX G _) (cc := cX6_clear) (maxL := 4) (ret := (some .int)) (by decide) rfl (Nat.le_of_ble_eq_true rfl) ?_
  intro p e s m below meth c A ls X hno hnm hw hK hZ hA hS hsz eA hl
  obtain ⟨hx, hb, hr, hts, hown, hlk, hml⟩ := id X
  have hl : lv_has ls 4 [(0, .ref x), (1, .int si)] := hl
  refine lv_aload_n hx hb dX6_clear_0 rfl (lv_at hl 0 rfl) ?_
  refine lv_iload_n hx hb dX6_clear_1 rfl (lv_at hl 1 rfl) ?_
  refine x_callVr X (ci := 7) rfl hX hK hw hZ hS hA (As := [.int si]) (rest := []) (c_X6_sessionAt l G dce _ M hlt x (ad 0) (ad 1) (ad 2) (ad 3) hX f (fun i => ad (4 + i)) hsa hf si) (cwV 1 hts gX6_clear_X6_sessionAt rfl rfl rfl (by decide +kernel) ⟨Nat.le_of_ble_eq_true rfl, Nat.le_of_ble_eq_true rfl⟩) rfl hl.1 rfl (Nat.le_of_ble_eq_true rfl) dX6_clear_2 (Nat.le_of_ble_eq_true rfl) (Nat.le_of_ble_eq_true rfl) (fun E ce q9 M1 H locs hp hw hS hz hk hce hcv hcl9 => ?_) (fun r2 M1 H locs hp hw hS hz hk => ?_)
  · exact m_out X hno hK hw hS hce hcv hcl9 (by omega) (by omega) (⟨⟨hp.1, hp.2.1⟩, hp.2.2⟩)
  obtain ⟨⟨i, hi, ei, er⟩, hso, eM⟩ := hp
  have er : r2 = ad (4 + i) := er
  subst er
  rw [eM] at hw
  obtain ⟨hs0, hla, hlb, hnb⟩ := hS3 i hi
  have hs0 : M (ad (4 + i)) = some (.inr (5, [.ref (ad (12 + 2 * i)), .ref (ad (13 + 2 * i)), .ref (ad (40 + i))])) := hs0
  refine lv_astore_n (lv' := [(2, .ref (ad (4 + i))), (0, .ref x), (1, .int si)]) hx hb dX6_clear_5 rfl hl (by decide) rfl (fun ls hl => ?_)
  refine lv_aload_n hx hb dX6_clear_6 rfl (lv_at hl 0 rfl) ?_
  refine lv_iconst (v := 0) hx hb dX6_clear_7 (by decide) ?_
  refine m_callVi X (ci := 5) rfl hs0 hK hw hZ hS hA (As := [.int 0]) (rest := []) (c_X4_countLive_0 l G dce _ M (ad (4 + i)) (ad (12 + 2 * i)) (ad (13 + 2 * i)) (ad (40 + i)) hs0 0 0 dce (by rw [if_pos rfl]; exact hla)) (cwV 1 hts gX6_clear_X4_countLive rfl rfl rfl (by decide +kernel) ⟨Nat.le_of_ble_eq_true rfl, Nat.le_of_ble_eq_true rfl⟩) rfl hl.1 rfl (Nat.le_of_ble_eq_true rfl) dX6_clear_8 (Nat.le_of_ble_eq_true rfl) (Nat.le_of_ble_eq_true rfl) (fun r4 M3 H locs hp hw hS hz hk => ?_)
  rw [hp.2] at hw
  rw [hp.1]
  refine lv_aload_n hx hb dX6_clear_11 rfl (lv_at hl 0 rfl) ?_
  refine lv_iconst (v := 1) hx hb dX6_clear_12 (by decide) ?_
  refine m_callVi X (ci := 5) rfl hs0 hK hw hZ hS hA (As := [.int 1]) (rest := [.int 0]) (c_X4_countLive_0 l G dce _ M (ad (4 + i)) (ad (12 + 2 * i)) (ad (13 + 2 * i)) (ad (40 + i)) hs0 1 0 dce (by rw [if_neg (by decide)]; exact hlb)) (cwV 1 hts gX6_clear_X4_countLive rfl rfl rfl (by decide +kernel) ⟨Nat.le_of_ble_eq_true rfl, Nat.le_of_ble_eq_true rfl⟩) rfl hl.1 rfl (Nat.le_of_ble_eq_true rfl) dX6_clear_13 (Nat.le_of_ble_eq_true rfl) (Nat.le_of_ble_eq_true rfl) (fun r6 M5 H locs hp hw hS hz hk => ?_)
  rw [hp.2] at hw
  rw [hp.1]
  refine lv_iadd hx hb dX6_clear_16 ?_
  refine lv_istore_n (lv' := [(3, .int (0 + 0)), (2, .ref (ad (4 + i))), (0, .ref x), (1, .int si)]) hx hb dX6_clear_17 rfl hl (by decide) rfl (fun ls hl => ?_)
  refine lv_aload_n hx hb dX6_clear_18 rfl (lv_at hl 1 rfl) ?_
  refine lv_iconst (v := 0) hx hb dX6_clear_19 (by decide) ?_
  refine m_callVv X (ci := 5) rfl hs0 hK hw hZ hS hA (As := [.int 0]) (rest := []) (c_X4_forgetAll_0 l G dce _ M (ad (4 + i)) (ad (12 + 2 * i)) (ad (13 + 2 * i)) (ad (40 + i)) hs0 0 0 dce (by rw [if_pos rfl]; exact hla)) (cwV 1 hts gX6_clear_X4_forgetAll rfl rfl rfl (by decide +kernel) ⟨Nat.le_of_ble_eq_true rfl, Nat.le_of_ble_eq_true rfl⟩) rfl hl.1 rfl (Nat.le_of_ble_eq_true rfl) dX6_clear_20 (Nat.le_of_ble_eq_true rfl) (Nat.le_of_ble_eq_true rfl) (fun M7 H locs hp hw hS hz hk => ?_)
  rw [hp] at hw
  refine lv_aload_n hx hb dX6_clear_23 rfl (lv_at hl 1 rfl) ?_
  refine lv_iconst (v := 1) hx hb dX6_clear_24 (by decide) ?_
  refine m_callVv X (ci := 5) rfl hs0 hK hw hZ hS hA (As := [.int 1]) (rest := []) (c_X4_forgetAll_0 l G dce _ M (ad (4 + i)) (ad (12 + 2 * i)) (ad (13 + 2 * i)) (ad (40 + i)) hs0 1 0 dce (by rw [if_neg (by decide)]; exact hlb)) (cwV 1 hts gX6_clear_X4_forgetAll rfl rfl rfl (by decide +kernel) ⟨Nat.le_of_ble_eq_true rfl, Nat.le_of_ble_eq_true rfl⟩) rfl hl.1 rfl (Nat.le_of_ble_eq_true rfl) dX6_clear_25 (Nat.le_of_ble_eq_true rfl) (Nat.le_of_ble_eq_true rfl) (fun M8 H locs hp hw hS hz hk => ?_)
  rw [hp] at hw
  refine lv_iload_n hx hb dX6_clear_28 rfl (lv_at hl 0 rfl) ?_
  refine vx_ret ?_
  exact m_iret X hK hw hS (by refine ⟨by decide, hso, rfl⟩) (by omega) (by omega) dX6_clear_29
set_option maxHeartbeats 4000000 in
set_option maxRecDepth 100000 in
theorem c_X6_rows_0 (l : Launch) (G : gG) (dce sz : Nat) (M : gM) (hlt : l.stackTraces = false) (x : Nat) (ad : Nat → Nat) (hc : cS0 G dce M x ad) (kd : Int32) : xI l yX6_rows wsX6_rows ({ frames := 7, cells := 1, slots := 6, locals := 102 }) G dce sz M [.ref x, .int kd] (fun r M' => r = 0 ∧ kOK kd = true ∧ M' = M) (fun E M' => (E = xIAE ∧ kOK kd = false) ∧ M' = M) (1) (6) := by
  obtain ⟨hX, hT, ⟨f, hsa, hf⟩, hS3, ⟨fa, fr, hj, hja, hjr⟩, hdis⟩ := id hc
  have hX : M x = some (.inr (7, [.ref (ad 0), .ref (ad 1), .ref (ad 2), .ref (ad 3)])) := hX
  have hj : M (ad 2) = some (.inr (3, [.int 0, .ref (ad 50), .ref (ad 51)])) := hj
  have hta : M (if kd = 0 then ad 0 else ad 1) = some (oT (if kd = 0 then ad 10 else ad 11) (if kd = 0 then ad 20 else ad 21)) := by split; exact (hT 0 (by omega)).1; exact (hT 1 (by omega)).1
  have htl : M (if kd = 0 then ad 10 else ad 11) = some (oL 0 dce 0) := by split; exact (hT 0 (by omega)).2.1; exact (hT 1 (by omega)).2.1
  have htn : M (if kd = 0 then ad 20 else ad 21) = some (eR v0R) := by split; exact (hT 0 (by omega)).2.2; exact (hT 1 (by omega)).2.2
  refine xMet (Qc := QI G _) (XC := QX G _) (cc := cX6_rows) (maxL := 2) (ret := (some .int)) (by decide) rfl (Nat.le_of_ble_eq_true rfl) ?_
  intro p e s m below meth c A ls X hno hnm hw hK hZ hA hS hsz eA hl
  obtain ⟨hx, hb, hr, hts, hown, hlk, hml⟩ := id X
  have hl : lv_has ls 2 [(0, .ref x), (1, .int kd)] := hl
  refine lv_iload_n hx hb dX6_rows_0 rfl (lv_at hl 1 rfl) ?_
  refine x_callSv X hK hw hZ hS hA (As := [.int kd]) (rest := []) (c_X6_checkKind l G dce _ M hlt kd) (va_cwS 1 hts gX6_rows_X6_checkKind rfl rfl rfl (by decide +kernel) ⟨Nat.le_of_ble_eq_true rfl, Nat.le_of_ble_eq_true rfl⟩) rfl hl.1 rfl (Nat.le_of_ble_eq_true rfl) dX6_rows_1 (Nat.le_of_ble_eq_true rfl) (Nat.le_of_ble_eq_true rfl) (fun E ce q9 M1 H locs hp hw hS hz hk hce hcv hcl9 => ?_) (fun M1 H locs hp hw hS hz hk => ?_)
  · exact m_out X hno hK hw hS hce hcv hcl9 (by omega) (by omega) (⟨⟨hp.1, hp.2.1⟩, hp.2.2⟩)
  have hko := hp.1
  rw [hp.2] at hw
  refine lv_aload_n hx hb dX6_rows_4 rfl (lv_at hl 0 rfl) ?_
  refine lv_iload_n hx hb dX6_rows_5 rfl (lv_at hl 1 rfl) ?_
  refine m_callVr X (ci := 7) rfl hX hK hw hZ hS hA (As := [.int kd]) (rest := []) (c_X6_tableOf l G dce _ M x (ad 0) (ad 1) (ad 2) (ad 3) hX kd) (cwV 1 hts gX6_rows_X6_tableOf rfl rfl rfl (by decide +kernel) ⟨Nat.le_of_ble_eq_true rfl, Nat.le_of_ble_eq_true rfl⟩) rfl hl.1 rfl (Nat.le_of_ble_eq_true rfl) dX6_rows_6 (Nat.le_of_ble_eq_true rfl) (Nat.le_of_ble_eq_true rfl) (fun r3 M2 H locs hp hw hS hz hk => ?_)
  rw [hp.2] at hw
  rw [hp.1]
  refine m_callVi X (ci := 6) rfl hta hK hw hZ hS hA (As := []) (rest := []) (c_X5_countThere_0 l G dce _ M (if kd = 0 then ad 0 else ad 1) (if kd = 0 then ad 10 else ad 11) (if kd = 0 then ad 20 else ad 21) hta 0 dce htl) (cwV 0 hts gX6_rows_X5_countThere rfl rfl rfl (by decide +kernel) ⟨Nat.le_of_ble_eq_true rfl, Nat.le_of_ble_eq_true rfl⟩) rfl hl.1 rfl (Nat.le_of_ble_eq_true rfl) dX6_rows_9 (Nat.le_of_ble_eq_true rfl) (Nat.le_of_ble_eq_true rfl) (fun r5 M4 H locs hp hw hS hz hk => ?_)
  rw [hp.2] at hw
  rw [hp.1]
  refine vx_ret ?_
  exact m_iret X hK hw hS (by exact ⟨rfl, hko, rfl⟩) (by omega) (by omega) dX6_rows_12
set_option maxHeartbeats 4000000 in
set_option maxRecDepth 100000 in
theorem c_X6_rowName_0 (l : Launch) (G : gG) (dce sz : Nat) (M : gM) (hlt : l.stackTraces = false) (x : Nat) (ad : Nat → Nat) (hc : cS0 G dce M x ad) (kd ky : Int32) : xI l yX6_rowName wsX6_rowName ({ frames := 8, cells := 2, slots := 12, locals := 125 }) G dce sz M [.ref x, .int kd, .int ky] (fun _ _ => False) (fun E M' => E = (if kOK kd then xIOB else xIAE) ∧ M' = M) (2) (12) := by
  obtain ⟨hX, hT, ⟨f, hsa, hf⟩, hS3, ⟨fa, fr, hj, hja, hjr⟩, hdis⟩ := id hc
  have hX : M x = some (.inr (7, [.ref (ad 0), .ref (ad 1), .ref (ad 2), .ref (ad 3)])) := hX
  have hj : M (ad 2) = some (.inr (3, [.int 0, .ref (ad 50), .ref (ad 51)])) := hj
  have hta : M (if kd = 0 then ad 0 else ad 1) = some (oT (if kd = 0 then ad 10 else ad 11) (if kd = 0 then ad 20 else ad 21)) := by split; exact (hT 0 (by omega)).1; exact (hT 1 (by omega)).1
  have htl : M (if kd = 0 then ad 10 else ad 11) = some (oL 0 dce 0) := by split; exact (hT 0 (by omega)).2.1; exact (hT 1 (by omega)).2.1
  have htn : M (if kd = 0 then ad 20 else ad 21) = some (eR v0R) := by split; exact (hT 0 (by omega)).2.2; exact (hT 1 (by omega)).2.2
  refine xMet (Qc := QI G _) (XC := QX G _) (cc := cX6_rowName) (maxL := 3) (ret := (some .int)) (by decide) rfl (Nat.le_of_ble_eq_true rfl) ?_
  intro p e s m below meth c A ls X hno hnm hw hK hZ hA hS hsz eA hl
  obtain ⟨hx, hb, hr, hts, hown, hlk, hml⟩ := id X
  have hl : lv_has ls 3 [(0, .ref x), (1, .int kd), (2, .int ky)] := hl
  refine lv_aload_n hx hb dX6_rowName_0 rfl (lv_at hl 0 rfl) ?_
  refine lv_iload_n hx hb dX6_rowName_1 rfl (lv_at hl 1 rfl) ?_
  refine lv_iload_n hx hb dX6_rowName_2 rfl (lv_at hl 2 rfl) ?_
  refine x_callVr X (ci := 7) rfl hX hK hw hZ hS hA (As := [.int kd, .int ky]) (rest := []) (c_X6_checkedRow_out l G dce _ M hlt x (ad 0) (ad 1) (ad 2) (ad 3) hX kd ky (if kd = 0 then ad 10 else ad 11) (if kd = 0 then ad 20 else ad 21) 0 0 dce hta htl (by by_cases h9 : ky < 0; exact Or.inl h9; exact Or.inr (Int32.not_lt.mp h9)) htn) (cwV 2 hts gX6_rowName_X6_checkedRow rfl rfl rfl (by decide +kernel) ⟨Nat.le_of_ble_eq_true rfl, Nat.le_of_ble_eq_true rfl⟩) rfl hl.1 rfl (Nat.le_of_ble_eq_true rfl) dX6_rowName_3 (Nat.le_of_ble_eq_true rfl) (Nat.le_of_ble_eq_true rfl) (fun E ce q9 M1 H locs hp hw hS hz hk hce hcv hcl9 => ?_) (fun r2 M1 H locs hp hw hS hz hk => ?_)
  · exact m_out X hno hK hw hS hce hcv hcl9 (by omega) (by omega) (⟨by rcases hp.1 with q | q <;> simp [q.1, q.2], hp.2⟩)
  exact hp.elim
set_option maxHeartbeats 4000000 in
set_option maxRecDepth 100000 in
theorem c_X6_rowReference_0 (l : Launch) (G : gG) (dce sz : Nat) (M : gM) (hlt : l.stackTraces = false) (x : Nat) (ad : Nat → Nat) (hc : cS0 G dce M x ad) (kd ky : Int32) : xI l yX6_rowReference wsX6_rowReference ({ frames := 8, cells := 2, slots := 12, locals := 125 }) G dce sz M [.ref x, .int kd, .int ky] (fun _ _ => False) (fun E M' => E = (if kOK kd then xIOB else xIAE) ∧ M' = M) (2) (12) := by
  obtain ⟨hX, hT, ⟨f, hsa, hf⟩, hS3, ⟨fa, fr, hj, hja, hjr⟩, hdis⟩ := id hc
  have hX : M x = some (.inr (7, [.ref (ad 0), .ref (ad 1), .ref (ad 2), .ref (ad 3)])) := hX
  have hj : M (ad 2) = some (.inr (3, [.int 0, .ref (ad 50), .ref (ad 51)])) := hj
  have hta : M (if kd = 0 then ad 0 else ad 1) = some (oT (if kd = 0 then ad 10 else ad 11) (if kd = 0 then ad 20 else ad 21)) := by split; exact (hT 0 (by omega)).1; exact (hT 1 (by omega)).1
  have htl : M (if kd = 0 then ad 10 else ad 11) = some (oL 0 dce 0) := by split; exact (hT 0 (by omega)).2.1; exact (hT 1 (by omega)).2.1
  have htn : M (if kd = 0 then ad 20 else ad 21) = some (eR v0R) := by split; exact (hT 0 (by omega)).2.2; exact (hT 1 (by omega)).2.2
  refine xMet (Qc := QI G _) (XC := QX G _) (cc := cX6_rowReference) (maxL := 3) (ret := (some .int)) (by decide) rfl (Nat.le_of_ble_eq_true rfl) ?_
  intro p e s m below meth c A ls X hno hnm hw hK hZ hA hS hsz eA hl
  obtain ⟨hx, hb, hr, hts, hown, hlk, hml⟩ := id X
  have hl : lv_has ls 3 [(0, .ref x), (1, .int kd), (2, .int ky)] := hl
  refine lv_aload_n hx hb dX6_rowReference_0 rfl (lv_at hl 0 rfl) ?_
  refine lv_iload_n hx hb dX6_rowReference_1 rfl (lv_at hl 1 rfl) ?_
  refine lv_iload_n hx hb dX6_rowReference_2 rfl (lv_at hl 2 rfl) ?_
  refine x_callVr X (ci := 7) rfl hX hK hw hZ hS hA (As := [.int kd, .int ky]) (rest := []) (c_X6_checkedRow_out l G dce _ M hlt x (ad 0) (ad 1) (ad 2) (ad 3) hX kd ky (if kd = 0 then ad 10 else ad 11) (if kd = 0 then ad 20 else ad 21) 0 0 dce hta htl (by by_cases h9 : ky < 0; exact Or.inl h9; exact Or.inr (Int32.not_lt.mp h9)) htn) (cwV 2 hts gX6_rowReference_X6_checkedRow rfl rfl rfl (by decide +kernel) ⟨Nat.le_of_ble_eq_true rfl, Nat.le_of_ble_eq_true rfl⟩) rfl hl.1 rfl (Nat.le_of_ble_eq_true rfl) dX6_rowReference_3 (Nat.le_of_ble_eq_true rfl) (Nat.le_of_ble_eq_true rfl) (fun E ce q9 M1 H locs hp hw hS hz hk hce hcv hcl9 => ?_) (fun r2 M1 H locs hp hw hS hz hk => ?_)
  · exact m_out X hno hK hw hS hce hcv hcl9 (by omega) (by omega) (⟨by rcases hp.1 with q | q <;> simp [q.1, q.2], hp.2⟩)
  exact hp.elim
set_option maxHeartbeats 4000000 in
set_option maxRecDepth 100000 in
theorem c_X6_rowVersion_0 (l : Launch) (G : gG) (dce sz : Nat) (M : gM) (hlt : l.stackTraces = false) (x : Nat) (ad : Nat → Nat) (hc : cS0 G dce M x ad) (kd ky : Int32) : xI l yX6_rowVersion wsX6_rowVersion ({ frames := 8, cells := 2, slots := 12, locals := 125 }) G dce sz M [.ref x, .int kd, .int ky] (fun _ _ => False) (fun E M' => E = (if kOK kd then xIOB else xIAE) ∧ M' = M) (2) (12) := by
  obtain ⟨hX, hT, ⟨f, hsa, hf⟩, hS3, ⟨fa, fr, hj, hja, hjr⟩, hdis⟩ := id hc
  have hX : M x = some (.inr (7, [.ref (ad 0), .ref (ad 1), .ref (ad 2), .ref (ad 3)])) := hX
  have hj : M (ad 2) = some (.inr (3, [.int 0, .ref (ad 50), .ref (ad 51)])) := hj
  have hta : M (if kd = 0 then ad 0 else ad 1) = some (oT (if kd = 0 then ad 10 else ad 11) (if kd = 0 then ad 20 else ad 21)) := by split; exact (hT 0 (by omega)).1; exact (hT 1 (by omega)).1
  have htl : M (if kd = 0 then ad 10 else ad 11) = some (oL 0 dce 0) := by split; exact (hT 0 (by omega)).2.1; exact (hT 1 (by omega)).2.1
  have htn : M (if kd = 0 then ad 20 else ad 21) = some (eR v0R) := by split; exact (hT 0 (by omega)).2.2; exact (hT 1 (by omega)).2.2
  refine xMet (Qc := QI G _) (XC := QX G _) (cc := cX6_rowVersion) (maxL := 3) (ret := (some .int)) (by decide) rfl (Nat.le_of_ble_eq_true rfl) ?_
  intro p e s m below meth c A ls X hno hnm hw hK hZ hA hS hsz eA hl
  obtain ⟨hx, hb, hr, hts, hown, hlk, hml⟩ := id X
  have hl : lv_has ls 3 [(0, .ref x), (1, .int kd), (2, .int ky)] := hl
  refine lv_aload_n hx hb dX6_rowVersion_0 rfl (lv_at hl 0 rfl) ?_
  refine lv_iload_n hx hb dX6_rowVersion_1 rfl (lv_at hl 1 rfl) ?_
  refine lv_iload_n hx hb dX6_rowVersion_2 rfl (lv_at hl 2 rfl) ?_
  refine x_callVr X (ci := 7) rfl hX hK hw hZ hS hA (As := [.int kd, .int ky]) (rest := []) (c_X6_checkedRow_out l G dce _ M hlt x (ad 0) (ad 1) (ad 2) (ad 3) hX kd ky (if kd = 0 then ad 10 else ad 11) (if kd = 0 then ad 20 else ad 21) 0 0 dce hta htl (by by_cases h9 : ky < 0; exact Or.inl h9; exact Or.inr (Int32.not_lt.mp h9)) htn) (cwV 2 hts gX6_rowVersion_X6_checkedRow rfl rfl rfl (by decide +kernel) ⟨Nat.le_of_ble_eq_true rfl, Nat.le_of_ble_eq_true rfl⟩) rfl hl.1 rfl (Nat.le_of_ble_eq_true rfl) dX6_rowVersion_3 (Nat.le_of_ble_eq_true rfl) (Nat.le_of_ble_eq_true rfl) (fun E ce q9 M1 H locs hp hw hS hz hk hce hcv hcl9 => ?_) (fun r2 M1 H locs hp hw hS hz hk => ?_)
  · exact m_out X hno hK hw hS hce hcv hcl9 (by omega) (by omega) (⟨by rcases hp.1 with q | q <;> simp [q.1, q.2], hp.2⟩)
  exact hp.elim
set_option maxHeartbeats 4000000 in
set_option maxRecDepth 100000 in
theorem c_X6_writes_0 (l : Launch) (G : gG) (dce sz : Nat) (M : gM) (x : Nat) (ad : Nat → Nat) (hc : cS0 G dce M x ad) : mI l yX6_writes wsX6_writes ({ frames := 0, cells := 0, slots := 0, locals := 0 }) G dce sz M [.ref x] (fun r M' => r = 0 ∧ M' = M) (0) (0) := by
  obtain ⟨hX, hT, ⟨f, hsa, hf⟩, hS3, ⟨fa, fr, hj, hja, hjr⟩, hdis⟩ := id hc
  have hX : M x = some (.inr (7, [.ref (ad 0), .ref (ad 1), .ref (ad 2), .ref (ad 3)])) := hX
  have hj : M (ad 2) = some (.inr (3, [.int 0, .ref (ad 50), .ref (ad 51)])) := hj
  refine wMet (Qc := QI G _) (cc := cX6_writes) (maxL := 1) (ret := (some .int)) (by decide) rfl (Nat.le_of_ble_eq_true rfl) ?_
  intro p e s m below meth c A ls X hnm hw hK hZ hA hS hsz eA hl
  obtain ⟨hx, hb, hr, hts, hown, hlk, hml⟩ := id X
  have hl : lv_has ls 1 [(0, .ref x)] := hl
  have iX2 : ∀ w ∈ wsX20, w ∈ wsX6_writes := by decide +kernel
  have iX6 : ∀ w ∈ wsX60, w ∈ wsX6_writes := by decide +kernel
  refine lv_aload_n hx hb dX6_writes_0 rfl (lv_at hl 0 rfl) ?_
  refine m_get X iX6 hK hw hX rfl 2 (by decide) (ref := "ObjectMapper") (by decide +kernel) (Or.inl rfl) rfl dX6_writes_1 ?_
  refine m_get X iX2 hK hw hj rfl 0 (by decide) (ref := "ObjectMapper$Journal") (by decide +kernel) (Or.inl rfl) rfl dX6_writes_4 ?_
  exact m_iret X hK hw hS (by exact ⟨rfl, rfl⟩) (by omega) (by omega) dX6_writes_7
set_option maxHeartbeats 4000000 in
set_option maxRecDepth 100000 in
theorem c_X6_write_0 (l : Launch) (G : gG) (dce sz : Nat) (M : gM) (hlt : l.stackTraces = false) (x : Nat) (ad : Nat → Nat) (hc : cS0 G dce M x ad) (nu : Int32) : xI l yX6_write wsX6_write ({ frames := 7, cells := 1, slots := 6, locals := 103 }) G dce sz M [.ref x, .int nu] (fun _ _ => False) (fun E M' => E = xIOB ∧ M' = M) (1) (6) := by
  obtain ⟨hX, hT, ⟨f, hsa, hf⟩, hS3, ⟨fa, fr, hj, hja, hjr⟩, hdis⟩ := id hc
  have hX : M x = some (.inr (7, [.ref (ad 0), .ref (ad 1), .ref (ad 2), .ref (ad 3)])) := hX
  have hj : M (ad 2) = some (.inr (3, [.int 0, .ref (ad 50), .ref (ad 51)])) := hj
  refine xMet (Qc := QI G _) (XC := QX G _) (cc := cX6_write) (maxL := 2) (ret := (some .int)) (by decide) rfl (Nat.le_of_ble_eq_true rfl) ?_
  intro p e s m below meth c A ls X hno hnm hw hK hZ hA hS hsz eA hl
  obtain ⟨hx, hb, hr, hts, hown, hlk, hml⟩ := id X
  have hl : lv_has ls 2 [(0, .ref x), (1, .int nu)] := hl
  refine lv_aload_n hx hb dX6_write_0 rfl (lv_at hl 0 rfl) ?_
  refine lv_iload_n hx hb dX6_write_1 rfl (lv_at hl 1 rfl) ?_
  refine x_callVv X (ci := 7) rfl hX hK hw hZ hS hA (As := [.int nu]) (rest := []) (c_X6_checkWrite l G dce _ M hlt x (ad 0) (ad 1) (ad 2) (ad 3) hX 0 (ad 50) (ad 51) hj nu) (cwV 1 hts gX6_write_X6_checkWrite rfl rfl rfl (by decide +kernel) ⟨Nat.le_of_ble_eq_true rfl, Nat.le_of_ble_eq_true rfl⟩) rfl hl.1 rfl (Nat.le_of_ble_eq_true rfl) dX6_write_2 (Nat.le_of_ble_eq_true rfl) (Nat.le_of_ble_eq_true rfl) (fun E ce q9 M1 H locs hp hw hS hz hk hce hcv hcl9 => ?_) (fun M1 H locs hp hw hS hz hk => ?_)
  · exact m_out X hno hK hw hS hce hcv hcl9 (by omega) (by omega) (⟨hp.1, hp.2.2⟩)
  exact absurd hp.1.2 hp.1.1
set_option maxHeartbeats 4000000 in
set_option maxRecDepth 100000 in
theorem c_X6_written_0 (l : Launch) (G : gG) (dce sz : Nat) (M : gM) (hlt : l.stackTraces = false) (x : Nat) (ad : Nat → Nat) (hc : cS0 G dce M x ad) (nu : Int32) : xI l yX6_written wsX6_written ({ frames := 7, cells := 1, slots := 6, locals := 103 }) G dce sz M [.ref x, .int nu] (fun _ _ => False) (fun E M' => E = xIOB ∧ M' = M) (1) (6) := by
  obtain ⟨hX, hT, ⟨f, hsa, hf⟩, hS3, ⟨fa, fr, hj, hja, hjr⟩, hdis⟩ := id hc
  have hX : M x = some (.inr (7, [.ref (ad 0), .ref (ad 1), .ref (ad 2), .ref (ad 3)])) := hX
  have hj : M (ad 2) = some (.inr (3, [.int 0, .ref (ad 50), .ref (ad 51)])) := hj
  refine xMet (Qc := QI G _) (XC := QX G _) (cc := cX6_written) (maxL := 2) (ret := (some .int)) (by decide) rfl (Nat.le_of_ble_eq_true rfl) ?_
  intro p e s m below meth c A ls X hno hnm hw hK hZ hA hS hsz eA hl
  obtain ⟨hx, hb, hr, hts, hown, hlk, hml⟩ := id X
  have hl : lv_has ls 2 [(0, .ref x), (1, .int nu)] := hl
  refine lv_aload_n hx hb dX6_written_0 rfl (lv_at hl 0 rfl) ?_
  refine lv_iload_n hx hb dX6_written_1 rfl (lv_at hl 1 rfl) ?_
  refine x_callVv X (ci := 7) rfl hX hK hw hZ hS hA (As := [.int nu]) (rest := []) (c_X6_checkWrite l G dce _ M hlt x (ad 0) (ad 1) (ad 2) (ad 3) hX 0 (ad 50) (ad 51) hj nu) (cwV 1 hts gX6_written_X6_checkWrite rfl rfl rfl (by decide +kernel) ⟨Nat.le_of_ble_eq_true rfl, Nat.le_of_ble_eq_true rfl⟩) rfl hl.1 rfl (Nat.le_of_ble_eq_true rfl) dX6_written_2 (Nat.le_of_ble_eq_true rfl) (Nat.le_of_ble_eq_true rfl) (fun E ce q9 M1 H locs hp hw hS hz hk hce hcv hcl9 => ?_) (fun M1 H locs hp hw hS hz hk => ?_)
  · exact m_out X hno hK hw hS hce hcv hcl9 (by omega) (by omega) (⟨hp.1, hp.2.2⟩)
  exact absurd hp.1.2 hp.1.1
set_option maxHeartbeats 4000000 in
set_option maxRecDepth 100000 in
theorem c_X6_find_0 (l : Launch) (G : gG) (dce sz : Nat) (M : gM) (hlt : l.stackTraces = false) (x : Nat) (ad : Nat → Nat) (hc : cS0 G dce M x ad) (si kd ky : Int32) : xI l yX6_find wsX6_find ({ frames := 7, cells := 2, slots := 12, locals := 103 }) G dce sz M [.ref x, .int si, .int kd, .int ky] (fun r M' => r = 0 ∧ (sOK si = true ∧ kOK kd = true) ∧ M' = M) (fun E M' => (E = (if sOK si then xIAE else xIOB) ∧ (sOK si && kOK kd) = false) ∧ M' = M) (2) (12) := by
  obtain ⟨hX, hT, ⟨f, hsa, hf⟩, hS3, ⟨fa, fr, hj, hja, hjr⟩, hdis⟩ := id hc
  have hX : M x = some (.inr (7, [.ref (ad 0), .ref (ad 1), .ref (ad 2), .ref (ad 3)])) := hX
  have hj : M (ad 2) = some (.inr (3, [.int 0, .ref (ad 50), .ref (ad 51)])) := hj
  have hta : M (if kd = 0 then ad 0 else ad 1) = some (oT (if kd = 0 then ad 10 else ad 11) (if kd = 0 then ad 20 else ad 21)) := by split; exact (hT 0 (by omega)).1; exact (hT 1 (by omega)).1
  have htl : M (if kd = 0 then ad 10 else ad 11) = some (oL 0 dce 0) := by split; exact (hT 0 (by omega)).2.1; exact (hT 1 (by omega)).2.1
  have htn : M (if kd = 0 then ad 20 else ad 21) = some (eR v0R) := by split; exact (hT 0 (by omega)).2.2; exact (hT 1 (by omega)).2.2
  refine xMet (Qc := QI G _) (XC := QX G _) (cc := cX6_find) (maxL := 7) (ret := (some .boolean)) (by decide) rfl (Nat.le_of_ble_eq_true rfl) ?_
  intro p e s m below meth c A ls X hno hnm hw hK hZ hA hS hsz eA hl
  obtain ⟨hx, hb, hr, hts, hown, hlk, hml⟩ := id X
  have hl : lv_has ls 7 [(0, .ref x), (1, .int si), (2, .int kd), (3, .int ky)] := hl
  have iX3 : ∀ w ∈ wsX30, w ∈ wsX6_find := by decide +kernel
  refine lv_aload_n hx hb dX6_find_0 rfl (lv_at hl 0 rfl) ?_
  refine lv_iload_n hx hb dX6_find_1 rfl (lv_at hl 1 rfl) ?_
  refine x_callVr X (ci := 7) rfl hX hK hw hZ hS hA (As := [.int si]) (rest := []) (c_X6_sessionAt l G dce _ M hlt x (ad 0) (ad 1) (ad 2) (ad 3) hX f (fun i => ad (4 + i)) hsa hf si) (cwV 1 hts gX6_find_X6_sessionAt rfl rfl rfl (by decide +kernel) ⟨Nat.le_of_ble_eq_true rfl, Nat.le_of_ble_eq_true rfl⟩) rfl hl.1 rfl (Nat.le_of_ble_eq_true rfl) dX6_find_2 (Nat.le_of_ble_eq_true rfl) (Nat.le_of_ble_eq_true rfl) (fun E ce q9 M1 H locs hp hw hS hz hk hce hcv hcl9 => ?_) (fun r2 M1 H locs hp hw hS hz hk => ?_)
  · exact m_out X hno hK hw hS hce hcv hcl9 (by omega) (by omega) (⟨⟨by simp [hp.1, hp.2.1], by simp [hp.2.1]⟩, hp.2.2⟩)
  obtain ⟨⟨i, hi, ei, er⟩, hso, eM⟩ := hp
  have er : r2 = ad (4 + i) := er
  subst er
  rw [eM] at hw
  obtain ⟨hs0, hla, hlb, hnb⟩ := hS3 i hi
  have hs0 : M (ad (4 + i)) = some (.inr (5, [.ref (ad (12 + 2 * i)), .ref (ad (13 + 2 * i)), .ref (ad (40 + i))])) := hs0
  refine lv_astore (lv' := [(4, .ref (ad (4 + i))), (0, .ref x), (1, .int si), (2, .int kd), (3, .int ky)]) hx hb dX6_find_5 hl (by decide) rfl (fun ls hl => ?_)
  refine lv_iload_n hx hb dX6_find_7 rfl (lv_at hl 3 rfl) ?_
  refine x_callSv X hK hw hZ hS hA (As := [.int kd]) (rest := []) (c_X6_checkKind l G dce _ M hlt kd) (va_cwS 1 hts gX6_find_X6_checkKind rfl rfl rfl (by decide +kernel) ⟨Nat.le_of_ble_eq_true rfl, Nat.le_of_ble_eq_true rfl⟩) rfl hl.1 rfl (Nat.le_of_ble_eq_true rfl) dX6_find_8 (Nat.le_of_ble_eq_true rfl) (Nat.le_of_ble_eq_true rfl) (fun E ce q9 M3 H locs hp hw hS hz hk hce hcv hcl9 => ?_) (fun M3 H locs hp hw hS hz hk => ?_)
  · exact m_out X hno hK hw hS hce hcv hcl9 (by omega) (by omega) (⟨⟨by simp [hp.1, hp.2.1, hso], by simp [hp.2.1]⟩, hp.2.2⟩)
  have hko := hp.1
  rw [hp.2] at hw
  refine lv_aload_n hx hb dX6_find_11 rfl (lv_at hl 1 rfl) ?_
  refine lv_iload_n hx hb dX6_find_12 rfl (lv_at hl 3 rfl) ?_
  refine m_callVr X (ci := 7) rfl hX hK hw hZ hS hA (As := [.int kd]) (rest := []) (c_X6_tableOf l G dce _ M x (ad 0) (ad 1) (ad 2) (ad 3) hX kd) (cwV 1 hts gX6_find_X6_tableOf rfl rfl rfl (by decide +kernel) ⟨Nat.le_of_ble_eq_true rfl, Nat.le_of_ble_eq_true rfl⟩) rfl hl.1 rfl (Nat.le_of_ble_eq_true rfl) dX6_find_13 (Nat.le_of_ble_eq_true rfl) (Nat.le_of_ble_eq_true rfl) (fun r5 M4 H locs hp hw hS hz hk => ?_)
  rw [hp.2] at hw
  rw [hp.1]
  refine lv_iload_n hx hb dX6_find_16 rfl (lv_at hl 4 rfl) ?_
  refine m_callVr X (ci := 6) rfl hta hK hw hZ hS hA (As := [.int ky]) (rest := []) (c_X5_rowAt_out l G dce _ M (if kd = 0 then ad 0 else ad 1) (if kd = 0 then ad 10 else ad 11) (if kd = 0 then ad 20 else ad 21) hta 0 0 dce htl ky (by by_cases h9 : ky < 0; exact Or.inl h9; exact Or.inr (Int32.not_lt.mp h9))) (cwV 1 hts gX6_find_X5_rowAt rfl rfl rfl (by decide +kernel) ⟨Nat.le_of_ble_eq_true rfl, Nat.le_of_ble_eq_true rfl⟩) rfl hl.1 rfl (Nat.le_of_ble_eq_true rfl) dX6_find_17 (Nat.le_of_ble_eq_true rfl) (Nat.le_of_ble_eq_true rfl) (fun r7 M6 H locs hp hw hS hz hk => ?_)
  rw [hp.2] at hw
  rw [hp.1]
  refine lv_astore (lv' := [(5, .ref (if kd = 0 then ad 20 else ad 21)), (4, .ref (ad (4 + i))), (0, .ref x), (1, .int si), (2, .int kd), (3, .int ky)]) hx hb dX6_find_20 hl (by decide) rfl (fun ls hl => ?_)
  refine lv_aload hx hb dX6_find_22 (lv_at hl 1 rfl) ?_
  refine lv_iload_n hx hb dX6_find_24 rfl (lv_at hl 4 rfl) ?_
  refine lv_iload_n hx hb dX6_find_25 rfl (lv_at hl 5 rfl) ?_
  refine m_callVr X (ci := 5) rfl hs0 hK hw hZ hS hA (As := [.int kd, .int ky]) (rest := []) (c_X4_entityAt_out l G dce _ M (ad (4 + i)) (ad (12 + 2 * i)) (ad (13 + 2 * i)) (ad (40 + i)) hs0 kd 0 0 dce (by split <;> assumption) ky (by by_cases h9 : ky < 0; exact Or.inl h9; exact Or.inr (Int32.not_lt.mp h9))) (cwV 2 hts gX6_find_X4_entityAt rfl rfl rfl (by decide +kernel) ⟨Nat.le_of_ble_eq_true rfl, Nat.le_of_ble_eq_true rfl⟩) rfl hl.1 rfl (Nat.le_of_ble_eq_true rfl) dX6_find_26 (Nat.le_of_ble_eq_true rfl) (Nat.le_of_ble_eq_true rfl) (fun r9 M8 H locs hp hw hS hz hk => ?_)
  rw [hp.2] at hw
  rw [hp.1]
  have hnb : M (ad (40 + i)) = some (.inr (1, [.int (bI false), .int (bI false), .int (bI false), .int 0, .int (-1), .int 0, .int 0, .int 0])) := hnb
  refine lv_astore (lv' := [(6, .ref (ad (40 + i))), (5, .ref (if kd = 0 then ad 20 else ad 21)), (4, .ref (ad (4 + i))), (0, .ref x), (1, .int si), (2, .int kd), (3, .int ky)]) hx hb dX6_find_29 hl (by decide) rfl (fun ls hl => ?_)
  refine lv_aload hx hb dX6_find_31 (lv_at hl 1 rfl) ?_
  refine m_get X iX3 hK hw htn rfl 0 (by decide) (ref := "ObjectMapper$Row") (by decide +kernel) (Or.inl rfl) rfl dX6_find_33 ?_
  refine lv_if_eq (tgt := 54) hx hb dX6_find_36 (by decide) (fun c_36 => ?_) (fun c_36 => ?_)
  · refine lv_aload hx hb dX6_find_54 (lv_at hl 0 rfl) ?_
    refine m_callVi X (ci := 1) rfl hnb hK hw hZ hS hA (As := []) (rest := []) (c_X0_isLive l G dce _ M (ad (40 + i)) v0E hnb) (cwV 0 hts gX6_find_X0_isLive rfl rfl rfl (by decide +kernel) ⟨Nat.le_of_ble_eq_true rfl, Nat.le_of_ble_eq_true rfl⟩) rfl hl.1 rfl (Nat.le_of_ble_eq_true rfl) dX6_find_56 (Nat.le_of_ble_eq_true rfl) (Nat.le_of_ble_eq_true rfl) (fun r11 M10 H locs hp hw hS hz hk => ?_)
    rw [hp.2] at hw
    rw [hp.1]
    refine vx_ret ?_
    exact m_zret X (bI_nar _) hK hw hS (by exact ⟨rfl, ⟨hso, hko⟩, rfl⟩) (by omega) (by omega) dX6_find_59
  · exact (by exfalso; exact c_36 (by decide))
set_option maxHeartbeats 4000000 in
set_option maxRecDepth 100000 in
theorem c_X6_books_0 (l : Launch) (G : gG) (dce sz : Nat) (M : gM) (hlt : l.stackTraces = false) (x : Nat) (ad : Nat → Nat) (hc : cS0 G dce M x ad) (si au : Int32) : xI l yX6_books wsX6_books ({ frames := 7, cells := 2, slots := 12, locals := 104 }) G dce sz M [.ref x, .int si, .int au] (fun _ _ => False) (fun E M' => E = (if sOK si then xISE else xIOB) ∧ M' = M) (2) (12) := by
  obtain ⟨hX, hT, ⟨f, hsa, hf⟩, hS3, ⟨fa, fr, hj, hja, hjr⟩, hdis⟩ := id hc
  have hX : M x = some (.inr (7, [.ref (ad 0), .ref (ad 1), .ref (ad 2), .ref (ad 3)])) := hX
  have hj : M (ad 2) = some (.inr (3, [.int 0, .ref (ad 50), .ref (ad 51)])) := hj
  refine xMet (Qc := QI G _) (XC := QX G _) (cc := cX6_books) (maxL := 6) (ret := (some .int)) (by decide) rfl (Nat.le_of_ble_eq_true rfl) ?_
  intro p e s m below meth c A ls X hno hnm hw hK hZ hA hS hsz eA hl
  obtain ⟨hx, hb, hr, hts, hown, hlk, hml⟩ := id X
  have hl : lv_has ls 6 [(0, .ref x), (1, .int si), (2, .int au)] := hl
  refine lv_aload_n hx hb dX6_books_0 rfl (lv_at hl 0 rfl) ?_
  refine lv_iload_n hx hb dX6_books_1 rfl (lv_at hl 1 rfl) ?_
  refine x_callVr X (ci := 7) rfl hX hK hw hZ hS hA (As := [.int si]) (rest := []) (c_X6_sessionAt l G dce _ M hlt x (ad 0) (ad 1) (ad 2) (ad 3) hX f (fun i => ad (4 + i)) hsa hf si) (cwV 1 hts gX6_books_X6_sessionAt rfl rfl rfl (by decide +kernel) ⟨Nat.le_of_ble_eq_true rfl, Nat.le_of_ble_eq_true rfl⟩) rfl hl.1 rfl (Nat.le_of_ble_eq_true rfl) dX6_books_2 (Nat.le_of_ble_eq_true rfl) (Nat.le_of_ble_eq_true rfl) (fun E ce q9 M1 H locs hp hw hS hz hk hce hcv hcl9 => ?_) (fun r2 M1 H locs hp hw hS hz hk => ?_)
  · exact m_out X hno hK hw hS hce hcv hcl9 (by omega) (by omega) (⟨by simp [hp.1, hp.2.1], hp.2.2⟩)
  obtain ⟨⟨i, hi, ei, er⟩, hso, eM⟩ := hp
  have er : r2 = ad (4 + i) := er
  subst er
  rw [eM] at hw
  obtain ⟨hs0, hla, hlb, hnb⟩ := hS3 i hi
  have hs0 : M (ad (4 + i)) = some (.inr (5, [.ref (ad (12 + 2 * i)), .ref (ad (13 + 2 * i)), .ref (ad (40 + i))])) := hs0
  refine lv_astore_n (lv' := [(3, .ref (ad (4 + i))), (0, .ref x), (1, .int si), (2, .int au)]) hx hb dX6_books_5 rfl hl (by decide) rfl (fun ls hl => ?_)
  refine lv_aload_n hx hb dX6_books_6 rfl (lv_at hl 0 rfl) ?_
  refine lv_iconst (v := 0) hx hb dX6_books_7 (by decide) ?_
  refine lv_iload_n hx hb dX6_books_8 rfl (lv_at hl 3 rfl) ?_
  refine x_callSv X hK hw hZ hS hA (As := [.ref (ad (4 + i)), .int 0, .int au]) (rest := []) (c_X6_checkLive_out l G dce _ M hlt (ad (4 + i)) (ad (12 + 2 * i)) (ad (13 + 2 * i)) (ad (40 + i)) hs0 0 0 0 dce (by rw [if_pos rfl]; exact hla) au (by by_cases h9 : au < 0; exact Or.inl h9; exact Or.inr (Int32.not_lt.mp h9)) hnb) (va_cwS 3 hts gX6_books_X6_checkLive rfl rfl rfl (by decide +kernel) ⟨Nat.le_of_ble_eq_true rfl, Nat.le_of_ble_eq_true rfl⟩) rfl hl.1 rfl (Nat.le_of_ble_eq_true rfl) dX6_books_9 (Nat.le_of_ble_eq_true rfl) (Nat.le_of_ble_eq_true rfl) (fun E ce q9 M3 H locs hp hw hS hz hk hce hcv hcl9 => ?_) (fun M3 H locs hp hw hS hz hk => ?_)
  · exact m_out X hno hK hw hS hce hcv hcl9 (by omega) (by omega) (⟨by simp [hp.1, hso], hp.2⟩)
  exact hp.elim
set_option maxHeartbeats 4000000 in
set_option maxRecDepth 100000 in
theorem c_X6_remove_0 (l : Launch) (G : gG) (dce sz : Nat) (M : gM) (hlt : l.stackTraces = false) (x : Nat) (ad : Nat → Nat) (hc : cS0 G dce M x ad) (si kd ky : Int32) : xI l yX6_remove wsX6_remove ({ frames := 7, cells := 3, slots := 18, locals := 104 }) G dce sz M [.ref x, .int si, .int kd, .int ky] (fun _ _ => False) (fun E M' => E = (if sOK si then (if kOK kd then xISE else xIAE) else xIOB) ∧ M' = M) (3) (18) := by
  obtain ⟨hX, hT, ⟨f, hsa, hf⟩, hS3, ⟨fa, fr, hj, hja, hjr⟩, hdis⟩ := id hc
  have hX : M x = some (.inr (7, [.ref (ad 0), .ref (ad 1), .ref (ad 2), .ref (ad 3)])) := hX
  have hj : M (ad 2) = some (.inr (3, [.int 0, .ref (ad 50), .ref (ad 51)])) := hj
  refine xMet (Qc := QI G _) (XC := QX G _) (cc := cX6_remove) (maxL := 5) (ret := (some .int)) (by decide) rfl (Nat.le_of_ble_eq_true rfl) ?_
  intro p e s m below meth c A ls X hno hnm hw hK hZ hA hS hsz eA hl
  obtain ⟨hx, hb, hr, hts, hown, hlk, hml⟩ := id X
  have hl : lv_has ls 5 [(0, .ref x), (1, .int si), (2, .int kd), (3, .int ky)] := hl
  refine lv_aload_n hx hb dX6_remove_0 rfl (lv_at hl 0 rfl) ?_
  refine lv_iload_n hx hb dX6_remove_1 rfl (lv_at hl 1 rfl) ?_
  refine x_callVr X (ci := 7) rfl hX hK hw hZ hS hA (As := [.int si]) (rest := []) (c_X6_sessionAt l G dce _ M hlt x (ad 0) (ad 1) (ad 2) (ad 3) hX f (fun i => ad (4 + i)) hsa hf si) (cwV 1 hts gX6_remove_X6_sessionAt rfl rfl rfl (by decide +kernel) ⟨Nat.le_of_ble_eq_true rfl, Nat.le_of_ble_eq_true rfl⟩) rfl hl.1 rfl (Nat.le_of_ble_eq_true rfl) dX6_remove_2 (Nat.le_of_ble_eq_true rfl) (Nat.le_of_ble_eq_true rfl) (fun E ce q9 M1 H locs hp hw hS hz hk hce hcv hcl9 => ?_) (fun r2 M1 H locs hp hw hS hz hk => ?_)
  · exact m_out X hno hK hw hS hce hcv hcl9 (by omega) (by omega) (⟨by simp [hp.1, hp.2.1], hp.2.2⟩)
  obtain ⟨⟨i, hi, ei, er⟩, hso, eM⟩ := hp
  have er : r2 = ad (4 + i) := er
  subst er
  rw [eM] at hw
  obtain ⟨hs0, hla, hlb, hnb⟩ := hS3 i hi
  have hs0 : M (ad (4 + i)) = some (.inr (5, [.ref (ad (12 + 2 * i)), .ref (ad (13 + 2 * i)), .ref (ad (40 + i))])) := hs0
  refine lv_astore (lv' := [(4, .ref (ad (4 + i))), (0, .ref x), (1, .int si), (2, .int kd), (3, .int ky)]) hx hb dX6_remove_5 hl (by decide) rfl (fun ls hl => ?_)
  refine lv_iload_n hx hb dX6_remove_7 rfl (lv_at hl 3 rfl) ?_
  refine x_callSv X hK hw hZ hS hA (As := [.int kd]) (rest := []) (c_X6_checkKind l G dce _ M hlt kd) (va_cwS 1 hts gX6_remove_X6_checkKind rfl rfl rfl (by decide +kernel) ⟨Nat.le_of_ble_eq_true rfl, Nat.le_of_ble_eq_true rfl⟩) rfl hl.1 rfl (Nat.le_of_ble_eq_true rfl) dX6_remove_8 (Nat.le_of_ble_eq_true rfl) (Nat.le_of_ble_eq_true rfl) (fun E ce q9 M3 H locs hp hw hS hz hk hce hcv hcl9 => ?_) (fun M3 H locs hp hw hS hz hk => ?_)
  · exact m_out X hno hK hw hS hce hcv hcl9 (by omega) (by omega) (⟨by simp [hp.1, hp.2.1, hso], hp.2.2⟩)
  have hko := hp.1
  rw [hp.2] at hw
  refine lv_aload hx hb dX6_remove_11 (lv_at hl 0 rfl) ?_
  refine lv_iload_n hx hb dX6_remove_13 rfl (lv_at hl 3 rfl) ?_
  refine lv_iload_n hx hb dX6_remove_14 rfl (lv_at hl 4 rfl) ?_
  refine x_callSv X hK hw hZ hS hA (As := [.ref (ad (4 + i)), .int kd, .int ky]) (rest := []) (c_X6_checkLive_out l G dce _ M hlt (ad (4 + i)) (ad (12 + 2 * i)) (ad (13 + 2 * i)) (ad (40 + i)) hs0 kd 0 0 dce (by split <;> assumption) ky (by by_cases h9 : ky < 0; exact Or.inl h9; exact Or.inr (Int32.not_lt.mp h9)) hnb) (va_cwS 3 hts gX6_remove_X6_checkLive rfl rfl rfl (by decide +kernel) ⟨Nat.le_of_ble_eq_true rfl, Nat.le_of_ble_eq_true rfl⟩) rfl hl.1 rfl (Nat.le_of_ble_eq_true rfl) dX6_remove_15 (Nat.le_of_ble_eq_true rfl) (Nat.le_of_ble_eq_true rfl) (fun E ce q9 M4 H locs hp hw hS hz hk hce hcv hcl9 => ?_) (fun M4 H locs hp hw hS hz hk => ?_)
  · exact m_out X hno hK hw hS hce hcv hcl9 (by omega) (by omega) (⟨by simp [hp.1, hso, hko], hp.2⟩)
  exact hp.elim
set_option maxHeartbeats 4000000 in
set_option maxRecDepth 100000 in
theorem c_X6_name_0 (l : Launch) (G : gG) (dce sz : Nat) (M : gM) (hlt : l.stackTraces = false) (x : Nat) (ad : Nat → Nat) (hc : cS0 G dce M x ad) (si kd ky : Int32) : xI l yX6_name wsX6_name ({ frames := 7, cells := 3, slots := 18, locals := 104 }) G dce sz M [.ref x, .int si, .int kd, .int ky] (fun _ _ => False) (fun E M' => E = (if sOK si then (if kOK kd then xISE else xIAE) else xIOB) ∧ M' = M) (3) (18) := by
  obtain ⟨hX, hT, ⟨f, hsa, hf⟩, hS3, ⟨fa, fr, hj, hja, hjr⟩, hdis⟩ := id hc
  have hX : M x = some (.inr (7, [.ref (ad 0), .ref (ad 1), .ref (ad 2), .ref (ad 3)])) := hX
  have hj : M (ad 2) = some (.inr (3, [.int 0, .ref (ad 50), .ref (ad 51)])) := hj
  refine xMet (Qc := QI G _) (XC := QX G _) (cc := cX6_name) (maxL := 5) (ret := (some .int)) (by decide) rfl (Nat.le_of_ble_eq_true rfl) ?_
  intro p e s m below meth c A ls X hno hnm hw hK hZ hA hS hsz eA hl
  obtain ⟨hx, hb, hr, hts, hown, hlk, hml⟩ := id X
  have hl : lv_has ls 5 [(0, .ref x), (1, .int si), (2, .int kd), (3, .int ky)] := hl
  refine lv_aload_n hx hb dX6_name_0 rfl (lv_at hl 0 rfl) ?_
  refine lv_iload_n hx hb dX6_name_1 rfl (lv_at hl 1 rfl) ?_
  refine x_callVr X (ci := 7) rfl hX hK hw hZ hS hA (As := [.int si]) (rest := []) (c_X6_sessionAt l G dce _ M hlt x (ad 0) (ad 1) (ad 2) (ad 3) hX f (fun i => ad (4 + i)) hsa hf si) (cwV 1 hts gX6_name_X6_sessionAt rfl rfl rfl (by decide +kernel) ⟨Nat.le_of_ble_eq_true rfl, Nat.le_of_ble_eq_true rfl⟩) rfl hl.1 rfl (Nat.le_of_ble_eq_true rfl) dX6_name_2 (Nat.le_of_ble_eq_true rfl) (Nat.le_of_ble_eq_true rfl) (fun E ce q9 M1 H locs hp hw hS hz hk hce hcv hcl9 => ?_) (fun r2 M1 H locs hp hw hS hz hk => ?_)
  · exact m_out X hno hK hw hS hce hcv hcl9 (by omega) (by omega) (⟨by simp [hp.1, hp.2.1], hp.2.2⟩)
  obtain ⟨⟨i, hi, ei, er⟩, hso, eM⟩ := hp
  have er : r2 = ad (4 + i) := er
  subst er
  rw [eM] at hw
  obtain ⟨hs0, hla, hlb, hnb⟩ := hS3 i hi
  have hs0 : M (ad (4 + i)) = some (.inr (5, [.ref (ad (12 + 2 * i)), .ref (ad (13 + 2 * i)), .ref (ad (40 + i))])) := hs0
  refine lv_astore (lv' := [(4, .ref (ad (4 + i))), (0, .ref x), (1, .int si), (2, .int kd), (3, .int ky)]) hx hb dX6_name_5 hl (by decide) rfl (fun ls hl => ?_)
  refine lv_iload_n hx hb dX6_name_7 rfl (lv_at hl 3 rfl) ?_
  refine x_callSv X hK hw hZ hS hA (As := [.int kd]) (rest := []) (c_X6_checkKind l G dce _ M hlt kd) (va_cwS 1 hts gX6_name_X6_checkKind rfl rfl rfl (by decide +kernel) ⟨Nat.le_of_ble_eq_true rfl, Nat.le_of_ble_eq_true rfl⟩) rfl hl.1 rfl (Nat.le_of_ble_eq_true rfl) dX6_name_8 (Nat.le_of_ble_eq_true rfl) (Nat.le_of_ble_eq_true rfl) (fun E ce q9 M3 H locs hp hw hS hz hk hce hcv hcl9 => ?_) (fun M3 H locs hp hw hS hz hk => ?_)
  · exact m_out X hno hK hw hS hce hcv hcl9 (by omega) (by omega) (⟨by simp [hp.1, hp.2.1, hso], hp.2.2⟩)
  have hko := hp.1
  rw [hp.2] at hw
  refine lv_aload hx hb dX6_name_11 (lv_at hl 0 rfl) ?_
  refine lv_iload_n hx hb dX6_name_13 rfl (lv_at hl 3 rfl) ?_
  refine lv_iload_n hx hb dX6_name_14 rfl (lv_at hl 4 rfl) ?_
  refine x_callSv X hK hw hZ hS hA (As := [.ref (ad (4 + i)), .int kd, .int ky]) (rest := []) (c_X6_checkLive_out l G dce _ M hlt (ad (4 + i)) (ad (12 + 2 * i)) (ad (13 + 2 * i)) (ad (40 + i)) hs0 kd 0 0 dce (by split <;> assumption) ky (by by_cases h9 : ky < 0; exact Or.inl h9; exact Or.inr (Int32.not_lt.mp h9)) hnb) (va_cwS 3 hts gX6_name_X6_checkLive rfl rfl rfl (by decide +kernel) ⟨Nat.le_of_ble_eq_true rfl, Nat.le_of_ble_eq_true rfl⟩) rfl hl.1 rfl (Nat.le_of_ble_eq_true rfl) dX6_name_15 (Nat.le_of_ble_eq_true rfl) (Nat.le_of_ble_eq_true rfl) (fun E ce q9 M4 H locs hp hw hS hz hk hce hcv hcl9 => ?_) (fun M4 H locs hp hw hS hz hk => ?_)
  · exact m_out X hno hK hw hS hce hcv hcl9 (by omega) (by omega) (⟨by simp [hp.1, hso, hko], hp.2⟩)
  exact hp.elim
set_option maxHeartbeats 4000000 in
set_option maxRecDepth 100000 in
theorem c_X6_reference_0 (l : Launch) (G : gG) (dce sz : Nat) (M : gM) (hlt : l.stackTraces = false) (x : Nat) (ad : Nat → Nat) (hc : cS0 G dce M x ad) (si kd ky : Int32) : xI l yX6_reference wsX6_reference ({ frames := 7, cells := 3, slots := 18, locals := 104 }) G dce sz M [.ref x, .int si, .int kd, .int ky] (fun _ _ => False) (fun E M' => E = (if sOK si then (if kOK kd then xISE else xIAE) else xIOB) ∧ M' = M) (3) (18) := by
  obtain ⟨hX, hT, ⟨f, hsa, hf⟩, hS3, ⟨fa, fr, hj, hja, hjr⟩, hdis⟩ := id hc
  have hX : M x = some (.inr (7, [.ref (ad 0), .ref (ad 1), .ref (ad 2), .ref (ad 3)])) := hX
  have hj : M (ad 2) = some (.inr (3, [.int 0, .ref (ad 50), .ref (ad 51)])) := hj
  refine xMet (Qc := QI G _) (XC := QX G _) (cc := cX6_reference) (maxL := 5) (ret := (some .int)) (by decide) rfl (Nat.le_of_ble_eq_true rfl) ?_
  intro p e s m below meth c A ls X hno hnm hw hK hZ hA hS hsz eA hl
  obtain ⟨hx, hb, hr, hts, hown, hlk, hml⟩ := id X
  have hl : lv_has ls 5 [(0, .ref x), (1, .int si), (2, .int kd), (3, .int ky)] := hl
  refine lv_aload_n hx hb dX6_reference_0 rfl (lv_at hl 0 rfl) ?_
  refine lv_iload_n hx hb dX6_reference_1 rfl (lv_at hl 1 rfl) ?_
  refine x_callVr X (ci := 7) rfl hX hK hw hZ hS hA (As := [.int si]) (rest := []) (c_X6_sessionAt l G dce _ M hlt x (ad 0) (ad 1) (ad 2) (ad 3) hX f (fun i => ad (4 + i)) hsa hf si) (cwV 1 hts gX6_reference_X6_sessionAt rfl rfl rfl (by decide +kernel) ⟨Nat.le_of_ble_eq_true rfl, Nat.le_of_ble_eq_true rfl⟩) rfl hl.1 rfl (Nat.le_of_ble_eq_true rfl) dX6_reference_2 (Nat.le_of_ble_eq_true rfl) (Nat.le_of_ble_eq_true rfl) (fun E ce q9 M1 H locs hp hw hS hz hk hce hcv hcl9 => ?_) (fun r2 M1 H locs hp hw hS hz hk => ?_)
  · exact m_out X hno hK hw hS hce hcv hcl9 (by omega) (by omega) (⟨by simp [hp.1, hp.2.1], hp.2.2⟩)
  obtain ⟨⟨i, hi, ei, er⟩, hso, eM⟩ := hp
  have er : r2 = ad (4 + i) := er
  subst er
  rw [eM] at hw
  obtain ⟨hs0, hla, hlb, hnb⟩ := hS3 i hi
  have hs0 : M (ad (4 + i)) = some (.inr (5, [.ref (ad (12 + 2 * i)), .ref (ad (13 + 2 * i)), .ref (ad (40 + i))])) := hs0
  refine lv_astore (lv' := [(4, .ref (ad (4 + i))), (0, .ref x), (1, .int si), (2, .int kd), (3, .int ky)]) hx hb dX6_reference_5 hl (by decide) rfl (fun ls hl => ?_)
  refine lv_iload_n hx hb dX6_reference_7 rfl (lv_at hl 3 rfl) ?_
  refine x_callSv X hK hw hZ hS hA (As := [.int kd]) (rest := []) (c_X6_checkKind l G dce _ M hlt kd) (va_cwS 1 hts gX6_reference_X6_checkKind rfl rfl rfl (by decide +kernel) ⟨Nat.le_of_ble_eq_true rfl, Nat.le_of_ble_eq_true rfl⟩) rfl hl.1 rfl (Nat.le_of_ble_eq_true rfl) dX6_reference_8 (Nat.le_of_ble_eq_true rfl) (Nat.le_of_ble_eq_true rfl) (fun E ce q9 M3 H locs hp hw hS hz hk hce hcv hcl9 => ?_) (fun M3 H locs hp hw hS hz hk => ?_)
  · exact m_out X hno hK hw hS hce hcv hcl9 (by omega) (by omega) (⟨by simp [hp.1, hp.2.1, hso], hp.2.2⟩)
  have hko := hp.1
  rw [hp.2] at hw
  refine lv_aload hx hb dX6_reference_11 (lv_at hl 0 rfl) ?_
  refine lv_iload_n hx hb dX6_reference_13 rfl (lv_at hl 3 rfl) ?_
  refine lv_iload_n hx hb dX6_reference_14 rfl (lv_at hl 4 rfl) ?_
  refine x_callSv X hK hw hZ hS hA (As := [.ref (ad (4 + i)), .int kd, .int ky]) (rest := []) (c_X6_checkLive_out l G dce _ M hlt (ad (4 + i)) (ad (12 + 2 * i)) (ad (13 + 2 * i)) (ad (40 + i)) hs0 kd 0 0 dce (by split <;> assumption) ky (by by_cases h9 : ky < 0; exact Or.inl h9; exact Or.inr (Int32.not_lt.mp h9)) hnb) (va_cwS 3 hts gX6_reference_X6_checkLive rfl rfl rfl (by decide +kernel) ⟨Nat.le_of_ble_eq_true rfl, Nat.le_of_ble_eq_true rfl⟩) rfl hl.1 rfl (Nat.le_of_ble_eq_true rfl) dX6_reference_15 (Nat.le_of_ble_eq_true rfl) (Nat.le_of_ble_eq_true rfl) (fun E ce q9 M4 H locs hp hw hS hz hk hce hcv hcl9 => ?_) (fun M4 H locs hp hw hS hz hk => ?_)
  · exact m_out X hno hK hw hS hce hcv hcl9 (by omega) (by omega) (⟨by simp [hp.1, hso, hko], hp.2⟩)
  exact hp.elim
set_option maxHeartbeats 4000000 in
set_option maxRecDepth 100000 in
theorem c_X6_setName_0 (l : Launch) (G : gG) (dce sz : Nat) (M : gM) (hlt : l.stackTraces = false) (x : Nat) (ad : Nat → Nat) (hc : cS0 G dce M x ad) (si kd ky nm : Int32) : xV l yX6_setName wsX6_setName ({ frames := 7, cells := 4, slots := 24, locals := 104 }) G dce sz M [.ref x, .int si, .int kd, .int ky, .int nm] (fun _ => False) (fun E M' => E = (if sOK si then (if kOK kd && nOK nm then xISE else xIAE) else xIOB) ∧ M' = M) (4) (24) := by
  obtain ⟨hX, hT, ⟨f, hsa, hf⟩, hS3, ⟨fa, fr, hj, hja, hjr⟩, hdis⟩ := id hc
  have hX : M x = some (.inr (7, [.ref (ad 0), .ref (ad 1), .ref (ad 2), .ref (ad 3)])) := hX
  have hj : M (ad 2) = some (.inr (3, [.int 0, .ref (ad 50), .ref (ad 51)])) := hj
  refine xMet (Qc := QV G _) (XC := QX G _) (cc := cX6_setName) (maxL := 6) (ret := none) (by decide) rfl (Nat.le_of_ble_eq_true rfl) ?_
  intro p e s m below meth c A ls X hno hnm hw hK hZ hA hS hsz eA hl
  obtain ⟨hx, hb, hr, hts, hown, hlk, hml⟩ := id X
  have hl : lv_has ls 6 [(0, .ref x), (1, .int si), (2, .int kd), (3, .int ky), (4, .int nm)] := hl
  refine lv_aload_n hx hb dX6_setName_0 rfl (lv_at hl 0 rfl) ?_
  refine lv_iload_n hx hb dX6_setName_1 rfl (lv_at hl 1 rfl) ?_
  refine x_callVr X (ci := 7) rfl hX hK hw hZ hS hA (As := [.int si]) (rest := []) (c_X6_sessionAt l G dce _ M hlt x (ad 0) (ad 1) (ad 2) (ad 3) hX f (fun i => ad (4 + i)) hsa hf si) (cwV 1 hts gX6_setName_X6_sessionAt rfl rfl rfl (by decide +kernel) ⟨Nat.le_of_ble_eq_true rfl, Nat.le_of_ble_eq_true rfl⟩) rfl hl.1 rfl (Nat.le_of_ble_eq_true rfl) dX6_setName_2 (Nat.le_of_ble_eq_true rfl) (Nat.le_of_ble_eq_true rfl) (fun E ce q9 M1 H locs hp hw hS hz hk hce hcv hcl9 => ?_) (fun r2 M1 H locs hp hw hS hz hk => ?_)
  · exact m_out X hno hK hw hS hce hcv hcl9 (by omega) (by omega) (⟨by simp [hp.1, hp.2.1], hp.2.2⟩)
  obtain ⟨⟨i, hi, ei, er⟩, hso, eM⟩ := hp
  have er : r2 = ad (4 + i) := er
  subst er
  rw [eM] at hw
  obtain ⟨hs0, hla, hlb, hnb⟩ := hS3 i hi
  have hs0 : M (ad (4 + i)) = some (.inr (5, [.ref (ad (12 + 2 * i)), .ref (ad (13 + 2 * i)), .ref (ad (40 + i))])) := hs0
  refine lv_astore (lv' := [(5, .ref (ad (4 + i))), (0, .ref x), (1, .int si), (2, .int kd), (3, .int ky), (4, .int nm)]) hx hb dX6_setName_5 hl (by decide) rfl (fun ls hl => ?_)
  refine lv_iload_n hx hb dX6_setName_7 rfl (lv_at hl 3 rfl) ?_
  refine x_callSv X hK hw hZ hS hA (As := [.int kd]) (rest := []) (c_X6_checkKind l G dce _ M hlt kd) (va_cwS 1 hts gX6_setName_X6_checkKind rfl rfl rfl (by decide +kernel) ⟨Nat.le_of_ble_eq_true rfl, Nat.le_of_ble_eq_true rfl⟩) rfl hl.1 rfl (Nat.le_of_ble_eq_true rfl) dX6_setName_8 (Nat.le_of_ble_eq_true rfl) (Nat.le_of_ble_eq_true rfl) (fun E ce q9 M3 H locs hp hw hS hz hk hce hcv hcl9 => ?_) (fun M3 H locs hp hw hS hz hk => ?_)
  · exact m_out X hno hK hw hS hce hcv hcl9 (by omega) (by omega) (⟨by simp [hp.1, hp.2.1, hso], hp.2.2⟩)
  have hko := hp.1
  rw [hp.2] at hw
  refine lv_iload hx hb dX6_setName_11 (lv_at hl 5 rfl) ?_
  refine x_callSv X hK hw hZ hS hA (As := [.int nm]) (rest := []) (c_X6_checkRangeOfName l G dce _ M hlt nm) (va_cwS 1 hts gX6_setName_X6_checkRangeOfName rfl rfl rfl (by decide +kernel) ⟨Nat.le_of_ble_eq_true rfl, Nat.le_of_ble_eq_true rfl⟩) rfl hl.1 rfl (Nat.le_of_ble_eq_true rfl) dX6_setName_13 (Nat.le_of_ble_eq_true rfl) (Nat.le_of_ble_eq_true rfl) (fun E ce q9 M4 H locs hp hw hS hz hk hce hcv hcl9 => ?_) (fun M4 H locs hp hw hS hz hk => ?_)
  · exact m_out X hno hK hw hS hce hcv hcl9 (by omega) (by omega) (⟨by simp [hp.1, hp.2.1, hso, hko], hp.2.2⟩)
  have hno1 := hp.1
  rw [hp.2] at hw
  refine lv_aload hx hb dX6_setName_16 (lv_at hl 0 rfl) ?_
  refine lv_iload_n hx hb dX6_setName_18 rfl (lv_at hl 3 rfl) ?_
  refine lv_iload_n hx hb dX6_setName_19 rfl (lv_at hl 4 rfl) ?_
  refine x_callSv X hK hw hZ hS hA (As := [.ref (ad (4 + i)), .int kd, .int ky]) (rest := []) (c_X6_checkLive_out l G dce _ M hlt (ad (4 + i)) (ad (12 + 2 * i)) (ad (13 + 2 * i)) (ad (40 + i)) hs0 kd 0 0 dce (by split <;> assumption) ky (by by_cases h9 : ky < 0; exact Or.inl h9; exact Or.inr (Int32.not_lt.mp h9)) hnb) (va_cwS 3 hts gX6_setName_X6_checkLive rfl rfl rfl (by decide +kernel) ⟨Nat.le_of_ble_eq_true rfl, Nat.le_of_ble_eq_true rfl⟩) rfl hl.1 rfl (Nat.le_of_ble_eq_true rfl) dX6_setName_20 (Nat.le_of_ble_eq_true rfl) (Nat.le_of_ble_eq_true rfl) (fun E ce q9 M5 H locs hp hw hS hz hk hce hcv hcl9 => ?_) (fun M5 H locs hp hw hS hz hk => ?_)
  · exact m_out X hno hK hw hS hce hcv hcl9 (by omega) (by omega) (⟨by simp [hp.1, hso, hko, hno1], hp.2⟩)
  exact hp.elim
set_option maxHeartbeats 4000000 in
set_option maxRecDepth 100000 in
theorem c_X6_makeBook_0 (l : Launch) (G : gG) (dce sz : Nat) (M : gM) (hlt : l.stackTraces = false) (x : Nat) (ad : Nat → Nat) (hc : cS0 G dce M x ad) (si nm au : Int32) : xI l yX6_makeBook wsX6_makeBook ({ frames := 7, cells := 3, slots := 18, locals := 104 }) G dce sz M [.ref x, .int si, .int nm, .int au] (fun _ _ => False) (fun E M' => E = (if sOK si then (if nOK nm then xISE else xIAE) else xIOB) ∧ M' = M) (3) (18) := by
  obtain ⟨hX, hT, ⟨f, hsa, hf⟩, hS3, ⟨fa, fr, hj, hja, hjr⟩, hdis⟩ := id hc
  have hX : M x = some (.inr (7, [.ref (ad 0), .ref (ad 1), .ref (ad 2), .ref (ad 3)])) := hX
  have hj : M (ad 2) = some (.inr (3, [.int 0, .ref (ad 50), .ref (ad 51)])) := hj
  refine xMet (Qc := QI G _) (XC := QX G _) (cc := cX6_makeBook) (maxL := 5) (ret := (some .int)) (by decide) rfl (Nat.le_of_ble_eq_true rfl) ?_
  intro p e s m below meth c A ls X hno hnm hw hK hZ hA hS hsz eA hl
  obtain ⟨hx, hb, hr, hts, hown, hlk, hml⟩ := id X
  have hl : lv_has ls 5 [(0, .ref x), (1, .int si), (2, .int nm), (3, .int au)] := hl
  refine lv_aload_n hx hb dX6_makeBook_0 rfl (lv_at hl 0 rfl) ?_
  refine lv_iload_n hx hb dX6_makeBook_1 rfl (lv_at hl 1 rfl) ?_
  refine x_callVr X (ci := 7) rfl hX hK hw hZ hS hA (As := [.int si]) (rest := []) (c_X6_sessionAt l G dce _ M hlt x (ad 0) (ad 1) (ad 2) (ad 3) hX f (fun i => ad (4 + i)) hsa hf si) (cwV 1 hts gX6_makeBook_X6_sessionAt rfl rfl rfl (by decide +kernel) ⟨Nat.le_of_ble_eq_true rfl, Nat.le_of_ble_eq_true rfl⟩) rfl hl.1 rfl (Nat.le_of_ble_eq_true rfl) dX6_makeBook_2 (Nat.le_of_ble_eq_true rfl) (Nat.le_of_ble_eq_true rfl) (fun E ce q9 M1 H locs hp hw hS hz hk hce hcv hcl9 => ?_) (fun r2 M1 H locs hp hw hS hz hk => ?_)
  · exact m_out X hno hK hw hS hce hcv hcl9 (by omega) (by omega) (⟨by simp [hp.1, hp.2.1], hp.2.2⟩)
  obtain ⟨⟨i, hi, ei, er⟩, hso, eM⟩ := hp
  have er : r2 = ad (4 + i) := er
  subst er
  rw [eM] at hw
  obtain ⟨hs0, hla, hlb, hnb⟩ := hS3 i hi
  have hs0 : M (ad (4 + i)) = some (.inr (5, [.ref (ad (12 + 2 * i)), .ref (ad (13 + 2 * i)), .ref (ad (40 + i))])) := hs0
  refine lv_astore (lv' := [(4, .ref (ad (4 + i))), (0, .ref x), (1, .int si), (2, .int nm), (3, .int au)]) hx hb dX6_makeBook_5 hl (by decide) rfl (fun ls hl => ?_)
  refine lv_iload_n hx hb dX6_makeBook_7 rfl (lv_at hl 3 rfl) ?_
  refine x_callSv X hK hw hZ hS hA (As := [.int nm]) (rest := []) (c_X6_checkRangeOfName l G dce _ M hlt nm) (va_cwS 1 hts gX6_makeBook_X6_checkRangeOfName rfl rfl rfl (by decide +kernel) ⟨Nat.le_of_ble_eq_true rfl, Nat.le_of_ble_eq_true rfl⟩) rfl hl.1 rfl (Nat.le_of_ble_eq_true rfl) dX6_makeBook_8 (Nat.le_of_ble_eq_true rfl) (Nat.le_of_ble_eq_true rfl) (fun E ce q9 M3 H locs hp hw hS hz hk hce hcv hcl9 => ?_) (fun M3 H locs hp hw hS hz hk => ?_)
  · exact m_out X hno hK hw hS hce hcv hcl9 (by omega) (by omega) (⟨by simp [hp.1, hp.2.1, hso], hp.2.2⟩)
  have hno1 := hp.1
  rw [hp.2] at hw
  refine lv_aload hx hb dX6_makeBook_11 (lv_at hl 0 rfl) ?_
  refine lv_iconst (v := 0) hx hb dX6_makeBook_13 (by decide) ?_
  refine lv_iload_n hx hb dX6_makeBook_14 rfl (lv_at hl 4 rfl) ?_
  refine x_callSv X hK hw hZ hS hA (As := [.ref (ad (4 + i)), .int 0, .int au]) (rest := []) (c_X6_checkLive_out l G dce _ M hlt (ad (4 + i)) (ad (12 + 2 * i)) (ad (13 + 2 * i)) (ad (40 + i)) hs0 0 0 0 dce (by rw [if_pos rfl]; exact hla) au (by by_cases h9 : au < 0; exact Or.inl h9; exact Or.inr (Int32.not_lt.mp h9)) hnb) (va_cwS 3 hts gX6_makeBook_X6_checkLive rfl rfl rfl (by decide +kernel) ⟨Nat.le_of_ble_eq_true rfl, Nat.le_of_ble_eq_true rfl⟩) rfl hl.1 rfl (Nat.le_of_ble_eq_true rfl) dX6_makeBook_15 (Nat.le_of_ble_eq_true rfl) (Nat.le_of_ble_eq_true rfl) (fun E ce q9 M4 H locs hp hw hS hz hk hce hcv hcl9 => ?_) (fun M4 H locs hp hw hS hz hk => ?_)
  · exact m_out X hno hK hw hS hce hcv hcl9 (by omega) (by omega) (⟨by simp [hp.1, hso, hno1], hp.2⟩)
  exact hp.elim
set_option maxHeartbeats 4000000 in
set_option maxRecDepth 100000 in
theorem c_X6_setReference_0 (l : Launch) (G : gG) (dce sz : Nat) (M : gM) (hlt : l.stackTraces = false) (x : Nat) (ad : Nat → Nat) (hc : cS0 G dce M x ad) (si kd ky rf : Int32) : xV l yX6_setReference wsX6_setReference ({ frames := 7, cells := 3, slots := 18, locals := 104 }) G dce sz M [.ref x, .int si, .int kd, .int ky, .int rf] (fun _ => False) (fun E M' => E = (if sOK si then (if kOK kd && !(decide (kd = 1) && decide (rf = -1)) then xISE else xIAE) else xIOB) ∧ M' = M) (3) (18) := by
  obtain ⟨hX, hT, ⟨f, hsa, hf⟩, hS3, ⟨fa, fr, hj, hja, hjr⟩, hdis⟩ := id hc
  have hX : M x = some (.inr (7, [.ref (ad 0), .ref (ad 1), .ref (ad 2), .ref (ad 3)])) := hX
  have hj : M (ad 2) = some (.inr (3, [.int 0, .ref (ad 50), .ref (ad 51)])) := hj
  refine xMet (Qc := QV G _) (XC := QX G _) (cc := cX6_setReference) (maxL := 6) (ret := none) (by decide) rfl (Nat.le_of_ble_eq_true rfl) ?_
  intro p e s m below meth c A ls X hno hnm hw hK hZ hA hS hsz eA hl
  obtain ⟨hx, hb, hr, hts, hown, hlk, hml⟩ := id X
  have hl : lv_has ls 6 [(0, .ref x), (1, .int si), (2, .int kd), (3, .int ky), (4, .int rf)] := hl
  refine lv_aload_n hx hb dX6_setReference_0 rfl (lv_at hl 0 rfl) ?_
  refine lv_iload_n hx hb dX6_setReference_1 rfl (lv_at hl 1 rfl) ?_
  refine x_callVr X (ci := 7) rfl hX hK hw hZ hS hA (As := [.int si]) (rest := []) (c_X6_sessionAt l G dce _ M hlt x (ad 0) (ad 1) (ad 2) (ad 3) hX f (fun i => ad (4 + i)) hsa hf si) (cwV 1 hts gX6_setReference_X6_sessionAt rfl rfl rfl (by decide +kernel) ⟨Nat.le_of_ble_eq_true rfl, Nat.le_of_ble_eq_true rfl⟩) rfl hl.1 rfl (Nat.le_of_ble_eq_true rfl) dX6_setReference_2 (Nat.le_of_ble_eq_true rfl) (Nat.le_of_ble_eq_true rfl) (fun E ce q9 M1 H locs hp hw hS hz hk hce hcv hcl9 => ?_) (fun r2 M1 H locs hp hw hS hz hk => ?_)
  · exact m_out X hno hK hw hS hce hcv hcl9 (by omega) (by omega) (⟨by simp [hp.1, hp.2.1], hp.2.2⟩)
  obtain ⟨⟨i, hi, ei, er⟩, hso, eM⟩ := hp
  have er : r2 = ad (4 + i) := er
  subst er
  rw [eM] at hw
  obtain ⟨hs0, hla, hlb, hnb⟩ := hS3 i hi
  have hs0 : M (ad (4 + i)) = some (.inr (5, [.ref (ad (12 + 2 * i)), .ref (ad (13 + 2 * i)), .ref (ad (40 + i))])) := hs0
  refine lv_astore (lv' := [(5, .ref (ad (4 + i))), (0, .ref x), (1, .int si), (2, .int kd), (3, .int ky), (4, .int rf)]) hx hb dX6_setReference_5 hl (by decide) rfl (fun ls hl => ?_)
  refine lv_iload_n hx hb dX6_setReference_7 rfl (lv_at hl 3 rfl) ?_
  refine x_callSv X hK hw hZ hS hA (As := [.int kd]) (rest := []) (c_X6_checkKind l G dce _ M hlt kd) (va_cwS 1 hts gX6_setReference_X6_checkKind rfl rfl rfl (by decide +kernel) ⟨Nat.le_of_ble_eq_true rfl, Nat.le_of_ble_eq_true rfl⟩) rfl hl.1 rfl (Nat.le_of_ble_eq_true rfl) dX6_setReference_8 (Nat.le_of_ble_eq_true rfl) (Nat.le_of_ble_eq_true rfl) (fun E ce q9 M3 H locs hp hw hS hz hk hce hcv hcl9 => ?_) (fun M3 H locs hp hw hS hz hk => ?_)
  · exact m_out X hno hK hw hS hce hcv hcl9 (by omega) (by omega) (⟨by simp [hp.1, hp.2.1, hso], hp.2.2⟩)
  have hko := hp.1
  rw [hp.2] at hw
  refine lv_iload_n hx hb dX6_setReference_11 rfl (lv_at hl 3 rfl) ?_
  refine lv_iconst (v := 1) hx hb dX6_setReference_12 (by decide) ?_
  refine lv_icmp_ne (tgt := 32) hx hb dX6_setReference_13 (by decide) (fun c_13 => ?_) (fun c_13 => ?_)
  · refine lv_aload hx hb dX6_setReference_32 (lv_at hl 0 rfl) ?_
    refine lv_iload_n hx hb dX6_setReference_34 rfl (lv_at hl 3 rfl) ?_
    refine lv_iload_n hx hb dX6_setReference_35 rfl (lv_at hl 4 rfl) ?_
    refine x_callSv X hK hw hZ hS hA (As := [.ref (ad (4 + i)), .int kd, .int ky]) (rest := []) (c_X6_checkLive_out l G dce _ M hlt (ad (4 + i)) (ad (12 + 2 * i)) (ad (13 + 2 * i)) (ad (40 + i)) hs0 kd 0 0 dce (by split <;> assumption) ky (by by_cases h9 : ky < 0; exact Or.inl h9; exact Or.inr (Int32.not_lt.mp h9)) hnb) (va_cwS 3 hts gX6_setReference_X6_checkLive rfl rfl rfl (by decide +kernel) ⟨Nat.le_of_ble_eq_true rfl, Nat.le_of_ble_eq_true rfl⟩) rfl hl.1 rfl (Nat.le_of_ble_eq_true rfl) dX6_setReference_36 (Nat.le_of_ble_eq_true rfl) (Nat.le_of_ble_eq_true rfl) (fun E ce q9 M4 H locs hp hw hS hz hk hce hcv hcl9 => ?_) (fun M4 H locs hp hw hS hz hk => ?_)
    · exact m_out X hno hK hw hS hce hcv hcl9 (by omega) (by omega) (⟨by simp_all, hp.2⟩)
    exact hp.elim
  · refine lv_iload hx hb dX6_setReference_16 (lv_at hl 5 rfl) ?_
    refine lv_iconst (v := (-1)) hx hb dX6_setReference_18 (by decide) ?_
    refine lv_icmp_ne (tgt := 32) hx hb dX6_setReference_19 (by decide) (fun c_19 => ?_) (fun c_19 => ?_)
    · refine lv_aload hx hb dX6_setReference_32 (lv_at hl 0 rfl) ?_
      refine lv_iload_n hx hb dX6_setReference_34 rfl (lv_at hl 3 rfl) ?_
      refine lv_iload_n hx hb dX6_setReference_35 rfl (lv_at hl 4 rfl) ?_
      refine x_callSv X hK hw hZ hS hA (As := [.ref (ad (4 + i)), .int kd, .int ky]) (rest := []) (c_X6_checkLive_out l G dce _ M hlt (ad (4 + i)) (ad (12 + 2 * i)) (ad (13 + 2 * i)) (ad (40 + i)) hs0 kd 0 0 dce (by split <;> assumption) ky (by by_cases h9 : ky < 0; exact Or.inl h9; exact Or.inr (Int32.not_lt.mp h9)) hnb) (va_cwS 3 hts gX6_setReference_X6_checkLive rfl rfl rfl (by decide +kernel) ⟨Nat.le_of_ble_eq_true rfl, Nat.le_of_ble_eq_true rfl⟩) rfl hl.1 rfl (Nat.le_of_ble_eq_true rfl) dX6_setReference_36 (Nat.le_of_ble_eq_true rfl) (Nat.le_of_ble_eq_true rfl) (fun E ce q9 M5 H locs hp hw hS hz hk hce hcv hcl9 => ?_) (fun M5 H locs hp hw hS hz hk => ?_)
      · exact m_out X hno hK hw hS hce hcv hcl9 (by omega) (by omega) (⟨by simp_all, hp.2⟩)
      exact hp.elim
    · exact m_throwS X hno hlt rfl (cls := "java/lang/IllegalArgumentException") (text := "a book needs an author") (names := xNm) (by decide +kernel) (by decide +kernel) (by decide +kernel) (by decide +kernel) (by decide) (fun w h => List.mem_cons_of_mem _ (List.mem_append_left _ (List.mem_append_left _ (List.mem_append_right _ h)))) xng_IAE (by decide) xgd_IAE hK hw hZ hS hl.1 dX6_setReference_22 dX6_setReference_25 dX6_setReference_26 dX6_setReference_28 dX6_setReference_31 (Nat.le_of_ble_eq_true rfl) (Nat.le_of_ble_eq_true rfl) (Nat.le_of_ble_eq_true rfl) (Nat.le_of_ble_eq_true rfl) (by omega) (by omega) (⟨by simp_all [xIAE], rfl⟩)
set_option maxHeartbeats 4000000 in
set_option maxRecDepth 100000 in
theorem c_X6_flush_0 (l : Launch) (G : gG) (dce sz : Nat) (M : gM) (hlt : l.stackTraces = false) (x : Nat) (ad : Nat → Nat) (hc : cS0 G dce M x ad) (si : Int32) : xI l yX6_flush wsX6_flush ({ frames := 7, cells := 2, slots := 10, locals := 103 }) G dce sz M [.ref x, .int si] (fun r M' => r = 0 ∧ sOK si = true ∧ ∀ b e, M b = some e → M' b = some e) (fun E M' => (E = xIOB ∧ sOK si = false) ∧ M' = M) (2) (10) := by
  obtain ⟨hX, hT, ⟨f, hsa, hf⟩, hS3, ⟨fa, fr, hj, hja, hjr⟩, hdis⟩ := id hc
  have hX : M x = some (.inr (7, [.ref (ad 0), .ref (ad 1), .ref (ad 2), .ref (ad 3)])) := hX
  have hj : M (ad 2) = some (.inr (3, [.int 0, .ref (ad 50), .ref (ad 51)])) := hj
  refine xMet (Qc := QI G _) (XC := QX G _) (cc := cX6_flush) (maxL := 5) (ret := (some .int)) (by decide) rfl (Nat.le_of_ble_eq_true rfl) ?_
  intro p e s m below meth c A ls X hno hnm hw hK hZ hA hS hsz eA hl
  obtain ⟨hx, hb, hr, hts, hown, hlk, hml⟩ := id X
  have hl : lv_has ls 5 [(0, .ref x), (1, .int si)] := hl
  have iX1 : ∀ w ∈ wsX10, w ∈ wsX6_flush := by decide +kernel
  have iX2 : ∀ w ∈ wsX20, w ∈ wsX6_flush := by decide +kernel
  have iX6 : ∀ w ∈ wsX60, w ∈ wsX6_flush := by decide +kernel
  refine lv_aload_n hx hb dX6_flush_0 rfl (lv_at hl 0 rfl) ?_
  refine lv_iload_n hx hb dX6_flush_1 rfl (lv_at hl 1 rfl) ?_
  refine x_callVr X (ci := 7) rfl hX hK hw hZ hS hA (As := [.int si]) (rest := []) (c_X6_sessionAt l G dce _ M hlt x (ad 0) (ad 1) (ad 2) (ad 3) hX f (fun i => ad (4 + i)) hsa hf si) (cwV 1 hts gX6_flush_X6_sessionAt rfl rfl rfl (by decide +kernel) ⟨Nat.le_of_ble_eq_true rfl, Nat.le_of_ble_eq_true rfl⟩) rfl hl.1 rfl (Nat.le_of_ble_eq_true rfl) dX6_flush_2 (Nat.le_of_ble_eq_true rfl) (Nat.le_of_ble_eq_true rfl) (fun E ce q9 M1 H locs hp hw hS hz hk hce hcv hcl9 => ?_) (fun r2 M1 H locs hp hw hS hz hk => ?_)
  · exact m_out X hno hK hw hS hce hcv hcl9 (by omega) (by omega) (⟨⟨hp.1, hp.2.1⟩, hp.2.2⟩)
  obtain ⟨⟨i, hi, ei, er⟩, hso, eM⟩ := hp
  have er : r2 = ad (4 + i) := er
  subst er
  rw [eM] at hw
  obtain ⟨hs0, hla, hlb, hnb⟩ := hS3 i hi
  have hs0 : M (ad (4 + i)) = some (.inr (5, [.ref (ad (12 + 2 * i)), .ref (ad (13 + 2 * i)), .ref (ad (40 + i))])) := hs0
  have hla : M (ad (12 + 2 * i)) = some (.inr (0, [.int 0, .ref dce, .int 0])) := hla
  have hlb : M (ad (13 + 2 * i)) = some (.inr (0, [.int 0, .ref dce, .int 0])) := hlb
  refine lv_astore_n (lv' := [(2, .ref (ad (4 + i))), (0, .ref x), (1, .int si)]) hx hb dX6_flush_5 rfl hl (by decide) rfl (fun ls hl => ?_)
  refine lv_aload_n hx hb dX6_flush_6 rfl (lv_at hl 1 rfl) ?_
  refine m_get X iX6 hK hw hX rfl 2 (by decide) (ref := "ObjectMapper") (by decide +kernel) (Or.inl rfl) rfl dX6_flush_7 ?_
  refine m_callVi X (ci := 3) rfl hj hK hw hZ hS hA (As := []) (rest := []) (c_X2_isFull l G dce _ M (ad 2) (ad 50) (ad 51) 0 hj) (cwV 0 hts gX6_flush_X2_isFull rfl rfl rfl (by decide +kernel) ⟨Nat.le_of_ble_eq_true rfl, Nat.le_of_ble_eq_true rfl⟩) rfl hl.1 rfl (Nat.le_of_ble_eq_true rfl) dX6_flush_10 (Nat.le_of_ble_eq_true rfl) (Nat.le_of_ble_eq_true rfl) (fun r4 M3 H locs hp hw hS hz hk => ?_)
  rw [hp.2] at hw
  rw [hp.1]
  refine lv_if_eq (tgt := 26) hx hb dX6_flush_13 (by decide) (fun c_13 => ?_) (fun c_13 => ?_)
  · refine m_new X iX1 tyX1_ok (ci := 2) (by decide +kernel) (by decide +kernel) (by decide +kernel) hK hw hS hA rfl (fs := [.null, .null, .null, .null]) rfl (Nat.le_of_ble_eq_true rfl) (Nat.le_of_ble_eq_true rfl) dX6_flush_26 (fun fl M5 H nfl eM5 hw hS => ?_)
    have d_x_fl : x ≠ fl := gM_nn nfl hX
    have k6 := (congrFun eM5 x).trans (mu_g hX d_x_fl)
    have d8 : (ad 2) ≠ fl := gM_nn nfl hj
    have k7 := (congrFun eM5 ((ad 2))).trans (mu_g hj d8)
    have d10 : (ad (4 + i)) ≠ fl := gM_nn nfl hs0
    have k9 := (congrFun eM5 ((ad (4 + i)))).trans (mu_g hs0 d10)
    have d12 : (ad (12 + 2 * i)) ≠ fl := gM_nn nfl hla
    have k11 := (congrFun eM5 ((ad (12 + 2 * i)))).trans (mu_g hla d12)
    have d14 : (ad (13 + 2 * i)) ≠ fl := gM_nn nfl hlb
    have k13 := (congrFun eM5 ((ad (13 + 2 * i)))).trans (mu_g hlb d14)
    have k15 : M5 fl = some (.inr (2, [.null, .null, .null, .null])) := by rw [eM5]; exact mu_s _ _ _
    refine lv_dup hx hb dX6_flush_29 rfl ?_
    refine lv_aload_n hx hb dX6_flush_30 rfl (lv_at hl 0 rfl) ?_
    refine lv_aload_n hx hb dX6_flush_31 rfl (lv_at hl 1 rfl) ?_
    refine m_get X iX6 hK hw k6 rfl 0 (by decide) (ref := "ObjectMapper") (by decide +kernel) (Or.inl rfl) rfl dX6_flush_32 ?_
    refine lv_aload_n hx hb dX6_flush_35 rfl (lv_at hl 1 rfl) ?_
    refine m_get X iX6 hK hw k6 rfl 1 (by decide) (ref := "ObjectMapper") (by decide +kernel) (Or.inl rfl) rfl dX6_flush_36 ?_
    refine lv_aload_n hx hb dX6_flush_39 rfl (lv_at hl 1 rfl) ?_
    refine m_get X iX6 hK hw k6 rfl 2 (by decide) (ref := "ObjectMapper") (by decide +kernel) (Or.inl rfl) rfl dX6_flush_40 ?_
    refine m_callIv (ret9 := none) X hK hw hZ hS hA (As := [.ref (ad (4 + i)), .ref (ad 0), .ref (ad 1), .ref (ad 2)]) (rest := [.ref fl]) (c_X1_init l G dce _ M5 fl (ad (4 + i)) (ad 0) (ad 1) (ad 2) k15) (cwI 4 hts gX6_flush_X1_init rfl rfl rfl (hts (.initialized RX1) (by decide +kernel)) (hts (.methodLink RX6 135 yX1_init) (by decide +kernel)) (hts (.instanceMethod yX1_init) (by decide +kernel)) rfl (by decide +kernel) ⟨Nat.le_of_ble_eq_true rfl, Nat.le_of_ble_eq_true rfl⟩) rfl hl.1 rfl (Nat.le_of_ble_eq_true rfl) dX6_flush_43 (Nat.le_of_ble_eq_true rfl) (Nat.le_of_ble_eq_true rfl) (fun M16 H locs hp hw hS hz hk => ?_)
    have eM16 := hp
    have k17 := (congrFun eM16 x).trans (mu_g k6 d_x_fl)
    have k18 := (congrFun eM16 ((ad 2))).trans (mu_g k7 d8)
    have k19 := (congrFun eM16 ((ad (4 + i)))).trans (mu_g k9 d10)
    have k20 := (congrFun eM16 ((ad (12 + 2 * i)))).trans (mu_g k11 d12)
    have k21 := (congrFun eM16 ((ad (13 + 2 * i)))).trans (mu_g k13 d14)
    have k22 : M16 fl = some (.inr (2, [.ref (ad (4 + i)), .ref (ad 0), .ref (ad 1), .ref (ad 2)])) := by rw [eM16]; exact mu_s _ _ _
    refine lv_astore_n (lv' := [(3, .ref fl), (2, .ref (ad (4 + i))), (0, .ref x), (1, .int si)]) hx hb dX6_flush_46 rfl hl (by decide) rfl (fun ls hl => ?_)
    refine lv_aload_n hx hb dX6_flush_47 rfl (lv_at hl 0 rfl) ?_
    refine m_callVi X (ci := 2) rfl k22 hK hw hZ hS hA (As := []) (rest := []) (c_X1_clashes_0 l G dce _ M16 fl (ad (4 + i)) (ad 0) (ad 1) (ad 2) (ad (12 + 2 * i)) (ad (13 + 2 * i)) (ad (40 + i)) k22 k19 k20 k21) (cwV 0 hts gX6_flush_X1_clashes rfl rfl rfl (by decide +kernel) ⟨Nat.le_of_ble_eq_true rfl, Nat.le_of_ble_eq_true rfl⟩) rfl hl.1 rfl (Nat.le_of_ble_eq_true rfl) dX6_flush_48 (Nat.le_of_ble_eq_true rfl) (Nat.le_of_ble_eq_true rfl) (fun r24 M23 H locs hp hw hS hz hk => ?_)
    rw [hp.2] at hw
    rw [hp.1]
    refine lv_if_ne (tgt := 61) hx hb dX6_flush_51 (by decide) (fun c_51 => ?_) (fun c_51 => ?_)
    · exact (by exfalso; first | exact c_51 rfl | exact c_58 rfl)
    · refine lv_aload_n hx hb dX6_flush_54 rfl (lv_at hl 0 rfl) ?_
      refine m_callVi X (ci := 2) rfl k22 hK hw hZ hS hA (As := []) (rest := []) (c_X1_leavesDanglingReference_0 l G dce _ M16 fl (ad (4 + i)) (ad 0) (ad 1) (ad 2) (ad (12 + 2 * i)) (ad (13 + 2 * i)) (ad (40 + i)) k22 k19 k20 k21) (cwV 0 hts gX6_flush_X1_leavesDanglingReference rfl rfl rfl (by decide +kernel) ⟨Nat.le_of_ble_eq_true rfl, Nat.le_of_ble_eq_true rfl⟩) rfl hl.1 rfl (Nat.le_of_ble_eq_true rfl) dX6_flush_55 (Nat.le_of_ble_eq_true rfl) (Nat.le_of_ble_eq_true rfl) (fun r26 M25 H locs hp hw hS hz hk => ?_)
      rw [hp.2] at hw
      rw [hp.1]
      refine lv_if_eq (tgt := 71) hx hb dX6_flush_58 (by decide) (fun c_58 => ?_) (fun c_58 => ?_)
      · refine lv_aload_n hx hb dX6_flush_71 rfl (lv_at hl 2 rfl) ?_
        refine m_get X iX6 hK hw k17 rfl 2 (by decide) (ref := "ObjectMapper") (by decide +kernel) (Or.inl rfl) rfl dX6_flush_72 ?_
        refine m_get X iX2 hK hw k18 rfl 0 (by decide) (ref := "ObjectMapper$Journal") (by decide +kernel) (Or.inl rfl) rfl dX6_flush_75 ?_
        refine lv_istore (lv' := [(4, .int 0), (3, .ref fl), (2, .ref (ad (4 + i))), (0, .ref x), (1, .int si)]) hx hb dX6_flush_78 hl (by decide) rfl (fun ls hl => ?_)
        refine lv_aload_n hx hb dX6_flush_80 rfl (lv_at hl 1 rfl) ?_
        refine m_callVv X (ci := 2) rfl k22 hK hw hZ hS hA (As := []) (rest := []) (c_X1_doWrites_0 l G dce _ M16 fl (ad (4 + i)) (ad 0) (ad 1) (ad 2) (ad (12 + 2 * i)) (ad (13 + 2 * i)) (ad (40 + i)) k22 k19 k20 k21) (cwV 0 hts gX6_flush_X1_doWrites rfl rfl rfl (by decide +kernel) ⟨Nat.le_of_ble_eq_true rfl, Nat.le_of_ble_eq_true rfl⟩) rfl hl.1 rfl (Nat.le_of_ble_eq_true rfl) dX6_flush_81 (Nat.le_of_ble_eq_true rfl) (Nat.le_of_ble_eq_true rfl) (fun M27 H locs hp hw hS hz hk => ?_)
        rw [hp] at hw
        have FR : ∀ b e, M b = some e → M16 b = some e := fun b e hb => by rw [eM16]; exact mu_g (by rw [eM5]; exact mu_g hb (gM_nn nfl hb)) (gM_nn nfl hb)
        refine lv_aload_n hx hb dX6_flush_84 rfl (lv_at hl 3 rfl) ?_
        refine m_get X iX6 hK hw k17 rfl 2 (by decide) (ref := "ObjectMapper") (by decide +kernel) (Or.inl rfl) rfl dX6_flush_85 ?_
        refine m_get X iX2 hK hw k18 rfl 0 (by decide) (ref := "ObjectMapper$Journal") (by decide +kernel) (Or.inl rfl) rfl dX6_flush_88 ?_
        refine lv_iload hx hb dX6_flush_91 (lv_at hl 0 rfl) ?_
        refine lv_isub hx hb dX6_flush_93 ?_
        refine vx_ret ?_
        exact m_iret X hK hw hS ⟨by decide, hso, fun b e hb => FR b e hb⟩ (by omega) (by omega) dX6_flush_94
      · exact (by exfalso; first | exact c_51 rfl | exact c_58 rfl)
  · exact (by exfalso; exact c_13 (by decide))
set_option maxHeartbeats 4000000 in
set_option maxRecDepth 100000 in
theorem c_X6_makeEntity_0 (l : Launch) (G : gG) (dce sz : Nat) (M : gM) (x : Nat) (ad : Nat → Nat) (hc : cS0 G dce M x ad) (i0 : Nat) (hi0 : i0 < 3) (kd nm rf : Int32) : mI l yX6_makeEntity wsX6_makeEntity ({ frames := 6, cells := 8, slots := 68, locals := 123 }) G dce sz M [.ref x, .ref (ad (4 + i0)), .int kd, .int nm, .int rf] (fun r M' => r = 0 ∧ ∀ b e, M b = some e → (∀ fs, e ≠ .inr (0, fs)) → M' b = some e) (8) (68) := by
  obtain ⟨hX, hT, ⟨f, hsa, hf⟩, hS3, ⟨fa, fr, hj, hja, hjr⟩, hdis⟩ := id hc
  have hX : M x = some (.inr (7, [.ref (ad 0), .ref (ad 1), .ref (ad 2), .ref (ad 3)])) := hX
  have hj : M (ad 2) = some (.inr (3, [.int 0, .ref (ad 50), .ref (ad 51)])) := hj
  have hta : M (if kd = 0 then ad 0 else ad 1) = some (oT (if kd = 0 then ad 10 else ad 11) (if kd = 0 then ad 20 else ad 21)) := by split; exact (hT 0 (by omega)).1; exact (hT 1 (by omega)).1
  have htl : M (if kd = 0 then ad 10 else ad 11) = some (oL 0 dce 0) := by split; exact (hT 0 (by omega)).2.1; exact (hT 1 (by omega)).2.1
  have htn : M (if kd = 0 then ad 20 else ad 21) = some (eR v0R) := by split; exact (hT 0 (by omega)).2.2; exact (hT 1 (by omega)).2.2
  obtain ⟨s0c, la0, lb0, nb0⟩ := hS3 0 (by omega)
  have l0c : M (if kd = 0 then ad (12 + 2 * 0) else ad (13 + 2 * 0)) = some (oL 0 dce 0) := by split <;> assumption
  have dT0 : (if kd = 0 then ad (12 + 2 * 0) else ad (13 + 2 * 0)) ≠ (if kd = 0 then ad 10 else ad 11) := by
    by_cases h9 : kd = 0
    · rw [if_pos h9, if_pos h9]; exact (hdis 0 2 (by omega) (by omega)).symm
    · rw [if_neg h9, if_neg h9]; exact (hdis 1 3 (by omega) (by omega)).symm
  obtain ⟨s1c, la1, lb1, nb1⟩ := hS3 1 (by omega)
  have l1c : M (if kd = 0 then ad (12 + 2 * 1) else ad (13 + 2 * 1)) = some (oL 0 dce 0) := by split <;> assumption
  have dT1 : (if kd = 0 then ad (12 + 2 * 1) else ad (13 + 2 * 1)) ≠ (if kd = 0 then ad 10 else ad 11) := by
    by_cases h9 : kd = 0
    · rw [if_pos h9, if_pos h9]; exact (hdis 0 4 (by omega) (by omega)).symm
    · rw [if_neg h9, if_neg h9]; exact (hdis 1 5 (by omega) (by omega)).symm
  obtain ⟨s2c, la2, lb2, nb2⟩ := hS3 2 (by omega)
  have l2c : M (if kd = 0 then ad (12 + 2 * 2) else ad (13 + 2 * 2)) = some (oL 0 dce 0) := by split <;> assumption
  have dT2 : (if kd = 0 then ad (12 + 2 * 2) else ad (13 + 2 * 2)) ≠ (if kd = 0 then ad 10 else ad 11) := by
    by_cases h9 : kd = 0
    · rw [if_pos h9, if_pos h9]; exact (hdis 0 6 (by omega) (by omega)).symm
    · rw [if_neg h9, if_neg h9]; exact (hdis 1 7 (by omega) (by omega)).symm
  have dL01 : (if kd = 0 then ad (12 + 2 * 0) else ad (13 + 2 * 0)) ≠ (if kd = 0 then ad (12 + 2 * 1) else ad (13 + 2 * 1)) := by
    by_cases h9 : kd = 0
    · rw [if_pos h9, if_pos h9]; exact hdis 2 4 (by omega) (by omega)
    · rw [if_neg h9, if_neg h9]; exact hdis 3 5 (by omega) (by omega)
  have dL02 : (if kd = 0 then ad (12 + 2 * 0) else ad (13 + 2 * 0)) ≠ (if kd = 0 then ad (12 + 2 * 2) else ad (13 + 2 * 2)) := by
    by_cases h9 : kd = 0
    · rw [if_pos h9, if_pos h9]; exact hdis 2 6 (by omega) (by omega)
    · rw [if_neg h9, if_neg h9]; exact hdis 3 7 (by omega) (by omega)
  have dL12 : (if kd = 0 then ad (12 + 2 * 1) else ad (13 + 2 * 1)) ≠ (if kd = 0 then ad (12 + 2 * 2) else ad (13 + 2 * 2)) := by
    by_cases h9 : kd = 0
    · rw [if_pos h9, if_pos h9]; exact hdis 4 6 (by omega) (by omega)
    · rw [if_neg h9, if_neg h9]; exact hdis 5 7 (by omega) (by omega)
  have FR0 : ∀ b e, M b = some e → (∀ fs, e ≠ .inr (0, fs)) → M b = some e := fun _ _ h _ => h
  have htaC : M (if kd = 0 then ad 0 else ad 1) = some (.inr (6, [.ref (if kd = 0 then ad 10 else ad 11), .ref (if kd = 0 then ad 20 else ad 21)])) := hta
  have s0c : M (ad (4 + 0)) = some (.inr (5, [.ref (ad (12 + 2 * 0)), .ref (ad (13 + 2 * 0)), .ref (ad (40 + 0))])) := s0c
  have s1c : M (ad (4 + 1)) = some (.inr (5, [.ref (ad (12 + 2 * 1)), .ref (ad (13 + 2 * 1)), .ref (ad (40 + 1))])) := s1c
  have s2c : M (ad (4 + 2)) = some (.inr (5, [.ref (ad (12 + 2 * 2)), .ref (ad (13 + 2 * 2)), .ref (ad (40 + 2))])) := s2c
  refine wMet (Qc := QI G _) (cc := cX6_makeEntity) (maxL := 7) (ret := (some .int)) (by decide) rfl (Nat.le_of_ble_eq_true rfl) ?_
  intro p e s m below meth c A ls X hnm hw hK hZ hA hS hsz eA hl
  obtain ⟨hx, hb, hr, hts, hown, hlk, hml⟩ := id X
  have hl : lv_has ls 7 [(0, .ref x), (1, .ref (ad (4 + i0))), (2, .int kd), (3, .int nm), (4, .int rf)] := hl
  have iX6 : ∀ w ∈ wsX60, w ∈ wsX6_makeEntity := by decide +kernel
  refine lv_aload_n hx hb dX6_makeEntity_0 rfl (lv_at hl 0 rfl) ?_
  refine lv_iload_n hx hb dX6_makeEntity_1 rfl (lv_at hl 2 rfl) ?_
  refine m_callVr X (ci := 7) rfl hX hK hw hZ hS hA (As := [.int kd]) (rest := []) (c_X6_tableOf l G dce _ M x (ad 0) (ad 1) (ad 2) (ad 3) hX kd) (cwV 1 hts gX6_makeEntity_X6_tableOf rfl rfl rfl (by decide +kernel) ⟨Nat.le_of_ble_eq_true rfl, Nat.le_of_ble_eq_true rfl⟩) rfl hl.1 rfl (Nat.le_of_ble_eq_true rfl) dX6_makeEntity_2 (Nat.le_of_ble_eq_true rfl) (Nat.le_of_ble_eq_true rfl) (fun r2 M1 H locs hp hw hS hz hk => ?_)
  rw [hp.2] at hw
  rw [hp.1]
  refine m_callVi X (ci := 6) rfl htaC hK hw hZ hS hA (As := []) (rest := []) (c_X5_size l G dce _ M (if kd = 0 then ad 0 else ad 1) (if kd = 0 then ad 10 else ad 11) (if kd = 0 then ad 20 else ad 21) hta 0 0 dce htl) (cwV 0 hts gX6_makeEntity_X5_size rfl rfl rfl (by decide +kernel) ⟨Nat.le_of_ble_eq_true rfl, Nat.le_of_ble_eq_true rfl⟩) rfl hl.1 rfl (Nat.le_of_ble_eq_true rfl) dX6_makeEntity_5 (Nat.le_of_ble_eq_true rfl) (Nat.le_of_ble_eq_true rfl) (fun r4 M3 H locs hp hw hS hz hk => ?_)
  rw [hp.2] at hw
  rw [hp.1]
  refine lv_istore (lv' := [(5, .int 0), (0, .ref x), (1, .ref (ad (4 + i0))), (2, .int kd), (3, .int nm), (4, .int rf)]) hx hb dX6_makeEntity_8 hl (by decide) rfl (fun ls hl => ?_)
  refine lv_iload hx hb dX6_makeEntity_10 (lv_at hl 0 rfl) ?_
  refine lv_sipush (v := 512) hx hb dX6_makeEntity_12 (by decide) ?_
  refine lv_icmp_lt (tgt := 20) hx hb dX6_makeEntity_15 (by decide) (fun _ => ?_) (fun c_15 => absurd (by decide) c_15)
  refine lv_aload_n hx hb dX6_makeEntity_20 rfl (lv_at hl 1 rfl) ?_
  refine lv_iload_n hx hb dX6_makeEntity_21 rfl (lv_at hl 3 rfl) ?_
  refine m_callVr X (ci := 7) rfl hX hK hw hZ hS hA (As := [.int kd]) (rest := []) (c_X6_tableOf l G dce _ M x (ad 0) (ad 1) (ad 2) (ad 3) hX kd) (cwV 1 hts gX6_makeEntity_X6_tableOf rfl rfl rfl (by decide +kernel) ⟨Nat.le_of_ble_eq_true rfl, Nat.le_of_ble_eq_true rfl⟩) rfl hl.1 rfl (Nat.le_of_ble_eq_true rfl) dX6_makeEntity_22 (Nat.le_of_ble_eq_true rfl) (Nat.le_of_ble_eq_true rfl) (fun r6 M5 H locs hp hw hS hz hk => ?_)
  rw [hp.2] at hw
  rw [hp.1]
  refine m_callVv X (ci := 6) rfl htaC hK hw hZ hS hA (As := []) (rest := []) (c_X5_addPlace_0 l G dce _ M (if kd = 0 then ad 0 else ad 1) (if kd = 0 then ad 10 else ad 11) (if kd = 0 then ad 20 else ad 21) hta 0 htl) (cwV 0 hts gX6_makeEntity_X5_addPlace rfl rfl rfl (by decide +kernel) ⟨Nat.le_of_ble_eq_true rfl, Nat.le_of_ble_eq_true rfl⟩) rfl hl.1 rfl (Nat.le_of_ble_eq_true rfl) dX6_makeEntity_25 (Nat.le_of_ble_eq_true rfl) (Nat.le_of_ble_eq_true rfl) (fun M7 H locs hp hw hS hz hk => ?_)
  obtain ⟨⟨qT, aT, zqT, zaT, kLT, kqT, kaT⟩, gT⟩ := hp
  have k8 := gT x _ hX (gM_ne hX htl (by simp [oL]))
  have k9 := gT (if kd = 0 then ad 0 else ad 1) _ htaC (gM_ne htaC htl (by simp [oL]))
  have k10 := gT (ad 3) _ hsa (gM_ne hsa htl (by simp [oL]))
  have k11 := gT (ad (4 + 0)) _ s0c (gM_ne s0c htl (by simp [oL]))
  have k12 := gT (ad (4 + 1)) _ s1c (gM_ne s1c htl (by simp [oL]))
  have k13 := gT (ad (4 + 2)) _ s2c (gM_ne s2c htl (by simp [oL]))
  have k14 := gT (if kd = 0 then ad (12 + 2 * 0) else ad (13 + 2 * 0)) _ l0c dT0
  have k15 := gT (if kd = 0 then ad (12 + 2 * 1) else ad (13 + 2 * 1)) _ l1c dT1
  have k16 := gT (if kd = 0 then ad (12 + 2 * 2) else ad (13 + 2 * 2)) _ l2c dT2
  have NT : ∀ b e, M b = some e → (∀ fs, e ≠ .inr (0, fs)) → b ≠ aT := fun b e hb hne => gM_nn zaT (FR0 b e hb hne)
  have FRTx : ∀ b e, M b = some e → (∀ fs, e ≠ .inr (0, fs)) → M7 b = some e := fun b e hb hne => gT b e (FR0 b e hb hne) (gM_ne (FR0 b e hb hne) htl (hne _))
  refine lv_iconst (v := 0) hx hb dX6_makeEntity_28 (by decide) ?_
  refine lv_istore (lv' := [(6, .int 0), (5, .int 0), (0, .ref x), (1, .ref (ad (4 + i0))), (2, .int kd), (3, .int nm), (4, .int rf)]) hx hb dX6_makeEntity_29 hl (by decide) rfl (fun ls hl => ?_)
  refine lv_iload hx hb dX6_makeEntity_31 (lv_at hl 0 rfl) ?_
  refine lv_aload_n hx hb dX6_makeEntity_33 rfl (lv_at hl 2 rfl) ?_
  refine m_get X iX6 hK hw k8 rfl 3 (by decide) (ref := "ObjectMapper") (by decide +kernel) (Or.inl rfl) rfl dX6_makeEntity_34 ?_
  refine m_alen X hK hw k10 4 rfl dX6_makeEntity_37 ?_
  refine W.eq (g2 := F0 m 38 ls [.int 3, .int 0]) rfl ?_
  refine lv_icmp_ge (tgt := 58) hx hb dX6_makeEntity_38 (by decide) (fun c_38 => absurd c_38 (by decide)) (fun _ => ?_)
  refine lv_aload_n hx hb dX6_makeEntity_41 rfl (lv_at hl 2 rfl) ?_
  refine m_get X iX6 hK hw k8 rfl 3 (by decide) (ref := "ObjectMapper") (by decide +kernel) (Or.inl rfl) rfl dX6_makeEntity_42 ?_
  refine lv_iload hx hb dX6_makeEntity_45 (lv_at hl 0 rfl) ?_
  refine m_aald X hK hw 4 k10 rfl (v := ad (4 + 0)) (i := 0) (hf 0 (by omega)) (by unfold vp_in; decide) dX6_makeEntity_47 ?_
  refine lv_iload_n hx hb dX6_makeEntity_48 rfl (lv_at hl 4 rfl) ?_
  refine m_callVv X (ci := 5) rfl k11 hK hw hZ hS hA (As := [.int kd]) (rest := []) (c_X4_addPlace_0 l G dce _ M7 (ad (4 + 0)) (ad (12 + 2 * 0)) (ad (13 + 2 * 0)) (ad (40 + 0)) k11 kd 0 k14) (cwV 1 hts gX6_makeEntity_X4_addPlace rfl rfl rfl (by decide +kernel) ⟨Nat.le_of_ble_eq_true rfl, Nat.le_of_ble_eq_true rfl⟩) rfl hl.1 rfl (Nat.le_of_ble_eq_true rfl) dX6_makeEntity_49 (Nat.le_of_ble_eq_true rfl) (Nat.le_of_ble_eq_true rfl) (fun M17 H locs hp hw hS hz hk => ?_)
  obtain ⟨⟨q0, a0, zq0, za0, kL0, kq0, ka0⟩, g0⟩ := hp
  have k18 := g0 x _ k8 (gM_ne k8 k14 (by simp [oL]))
  have k19 := g0 (if kd = 0 then ad 0 else ad 1) _ k9 (gM_ne k9 k14 (by simp [oL]))
  have k20 := g0 (ad 3) _ k10 (gM_ne k10 k14 (by simp [oL]))
  have k21 := g0 (ad (4 + 0)) _ k11 (gM_ne k11 k14 (by simp [oL]))
  have k22 := g0 (ad (4 + 1)) _ k12 (gM_ne k12 k14 (by simp [oL]))
  have k23 := g0 (ad (4 + 2)) _ k13 (gM_ne k13 k14 (by simp [oL]))
  have k24 := g0 (if kd = 0 then ad (12 + 2 * 1) else ad (13 + 2 * 1)) _ k15 (Ne.symm dL01)
  have k25 := g0 (if kd = 0 then ad (12 + 2 * 2) else ad (13 + 2 * 2)) _ k16 (Ne.symm dL02)
  have N0 : ∀ b e, M b = some e → (∀ fs, e ≠ .inr (0, fs)) → b ≠ a0 := fun b e hb hne => gM_nn za0 (FRTx b e hb hne)
  have FR0x : ∀ b e, M b = some e → (∀ fs, e ≠ .inr (0, fs)) → M17 b = some e := fun b e hb hne => g0 b e (FRTx b e hb hne) (gM_ne (FRTx b e hb hne) k14 (hne _))
  refine lv_iinc (v := 1) (lv' := [(6, .int 1), (5, .int 0), (0, .ref x), (1, .ref (ad (4 + i0))), (2, .int kd), (3, .int nm), (4, .int rf)]) hx hb dX6_makeEntity_52 hl (k := 0) rfl (by decide) (by decide) rfl (fun ls hl => ?_)
  refine lv_goto (tgt := 31) hx hb dX6_makeEntity_55 (by decide) ?_
  refine lv_iload hx hb dX6_makeEntity_31 (lv_at hl 0 rfl) ?_
  refine lv_aload_n hx hb dX6_makeEntity_33 rfl (lv_at hl 2 rfl) ?_
  refine m_get X iX6 hK hw k18 rfl 3 (by decide) (ref := "ObjectMapper") (by decide +kernel) (Or.inl rfl) rfl dX6_makeEntity_34 ?_
  refine m_alen X hK hw k20 4 rfl dX6_makeEntity_37 ?_
  refine W.eq (g2 := F0 m 38 ls [.int 3, .int 1]) rfl ?_
  refine lv_icmp_ge (tgt := 58) hx hb dX6_makeEntity_38 (by decide) (fun c_38 => absurd c_38 (by decide)) (fun _ => ?_)
  refine lv_aload_n hx hb dX6_makeEntity_41 rfl (lv_at hl 2 rfl) ?_
  refine m_get X iX6 hK hw k18 rfl 3 (by decide) (ref := "ObjectMapper") (by decide +kernel) (Or.inl rfl) rfl dX6_makeEntity_42 ?_
  refine lv_iload hx hb dX6_makeEntity_45 (lv_at hl 0 rfl) ?_
  refine m_aald X hK hw 4 k20 rfl (v := ad (4 + 1)) (i := 1) (hf 1 (by omega)) (by unfold vp_in; decide) dX6_makeEntity_47 ?_
  refine lv_iload_n hx hb dX6_makeEntity_48 rfl (lv_at hl 4 rfl) ?_
  refine m_callVv X (ci := 5) rfl k22 hK hw hZ hS hA (As := [.int kd]) (rest := []) (c_X4_addPlace_0 l G dce _ M17 (ad (4 + 1)) (ad (12 + 2 * 1)) (ad (13 + 2 * 1)) (ad (40 + 1)) k22 kd 0 k24) (cwV 1 hts gX6_makeEntity_X4_addPlace rfl rfl rfl (by decide +kernel) ⟨Nat.le_of_ble_eq_true rfl, Nat.le_of_ble_eq_true rfl⟩) rfl hl.1 rfl (Nat.le_of_ble_eq_true rfl) dX6_makeEntity_49 (Nat.le_of_ble_eq_true rfl) (Nat.le_of_ble_eq_true rfl) (fun M26 H locs hp hw hS hz hk => ?_)
  obtain ⟨⟨q1, a1, zq1, za1, kL1, kq1, ka1⟩, g1⟩ := hp
  have k27 := g1 x _ k18 (gM_ne k18 k24 (by simp [oL]))
  have k28 := g1 (if kd = 0 then ad 0 else ad 1) _ k19 (gM_ne k19 k24 (by simp [oL]))
  have k29 := g1 (ad 3) _ k20 (gM_ne k20 k24 (by simp [oL]))
  have k30 := g1 (ad (4 + 0)) _ k21 (gM_ne k21 k24 (by simp [oL]))
  have k31 := g1 (ad (4 + 1)) _ k22 (gM_ne k22 k24 (by simp [oL]))
  have k32 := g1 (ad (4 + 2)) _ k23 (gM_ne k23 k24 (by simp [oL]))
  have k33 := g1 (if kd = 0 then ad (12 + 2 * 2) else ad (13 + 2 * 2)) _ k25 (Ne.symm dL12)
  have k34 := g1 (if kd = 0 then ad (12 + 2 * 0) else ad (13 + 2 * 0)) _ kL0 dL01
  have k35 := g1 q0 _ kq0 (gM_ne kq0 k24 (by simp [oA, oL]))
  have k36 := g1 a0 _ ka0 (gM_ne ka0 k24 (by simp [eE, v0E, oL]))
  have N1 : ∀ b e, M b = some e → (∀ fs, e ≠ .inr (0, fs)) → b ≠ a1 := fun b e hb hne => gM_nn za1 (FR0x b e hb hne)
  have FR1x : ∀ b e, M b = some e → (∀ fs, e ≠ .inr (0, fs)) → M26 b = some e := fun b e hb hne => g1 b e (FR0x b e hb hne) (gM_ne (FR0x b e hb hne) k24 (hne _))
  refine lv_iinc (v := 2) (lv' := [(6, .int 2), (5, .int 0), (0, .ref x), (1, .ref (ad (4 + i0))), (2, .int kd), (3, .int nm), (4, .int rf)]) hx hb dX6_makeEntity_52 hl (k := 0) rfl (by decide) (by decide) rfl (fun ls hl => ?_)
  refine lv_goto (tgt := 31) hx hb dX6_makeEntity_55 (by decide) ?_
  refine lv_iload hx hb dX6_makeEntity_31 (lv_at hl 0 rfl) ?_
  refine lv_aload_n hx hb dX6_makeEntity_33 rfl (lv_at hl 2 rfl) ?_
  refine m_get X iX6 hK hw k27 rfl 3 (by decide) (ref := "ObjectMapper") (by decide +kernel) (Or.inl rfl) rfl dX6_makeEntity_34 ?_
  refine m_alen X hK hw k29 4 rfl dX6_makeEntity_37 ?_
  refine W.eq (g2 := F0 m 38 ls [.int 3, .int 2]) rfl ?_
  refine lv_icmp_ge (tgt := 58) hx hb dX6_makeEntity_38 (by decide) (fun c_38 => absurd c_38 (by decide)) (fun _ => ?_)
  refine lv_aload_n hx hb dX6_makeEntity_41 rfl (lv_at hl 2 rfl) ?_
  refine m_get X iX6 hK hw k27 rfl 3 (by decide) (ref := "ObjectMapper") (by decide +kernel) (Or.inl rfl) rfl dX6_makeEntity_42 ?_
  refine lv_iload hx hb dX6_makeEntity_45 (lv_at hl 0 rfl) ?_
  refine m_aald X hK hw 4 k29 rfl (v := ad (4 + 2)) (i := 2) (hf 2 (by omega)) (by unfold vp_in; decide) dX6_makeEntity_47 ?_
  refine lv_iload_n hx hb dX6_makeEntity_48 rfl (lv_at hl 4 rfl) ?_
  refine m_callVv X (ci := 5) rfl k32 hK hw hZ hS hA (As := [.int kd]) (rest := []) (c_X4_addPlace_0 l G dce _ M26 (ad (4 + 2)) (ad (12 + 2 * 2)) (ad (13 + 2 * 2)) (ad (40 + 2)) k32 kd 0 k33) (cwV 1 hts gX6_makeEntity_X4_addPlace rfl rfl rfl (by decide +kernel) ⟨Nat.le_of_ble_eq_true rfl, Nat.le_of_ble_eq_true rfl⟩) rfl hl.1 rfl (Nat.le_of_ble_eq_true rfl) dX6_makeEntity_49 (Nat.le_of_ble_eq_true rfl) (Nat.le_of_ble_eq_true rfl) (fun M37 H locs hp hw hS hz hk => ?_)
  obtain ⟨⟨q2, a2, zq2, za2, kL2, kq2, ka2⟩, g2⟩ := hp
  have k38 := g2 x _ k27 (gM_ne k27 k33 (by simp [oL]))
  have k39 := g2 (if kd = 0 then ad 0 else ad 1) _ k28 (gM_ne k28 k33 (by simp [oL]))
  have k40 := g2 (ad 3) _ k29 (gM_ne k29 k33 (by simp [oL]))
  have k41 := g2 (ad (4 + 0)) _ k30 (gM_ne k30 k33 (by simp [oL]))
  have k42 := g2 (ad (4 + 1)) _ k31 (gM_ne k31 k33 (by simp [oL]))
  have k43 := g2 (ad (4 + 2)) _ k32 (gM_ne k32 k33 (by simp [oL]))
  have k44 := g2 (if kd = 0 then ad (12 + 2 * 0) else ad (13 + 2 * 0)) _ k34 dL02
  have k45 := g2 q0 _ k35 (gM_ne k35 k33 (by simp [oA, oL]))
  have k46 := g2 a0 _ k36 (gM_ne k36 k33 (by simp [eE, v0E, oL]))
  have k47 := g2 (if kd = 0 then ad (12 + 2 * 1) else ad (13 + 2 * 1)) _ kL1 dL12
  have k48 := g2 q1 _ kq1 (gM_ne kq1 k33 (by simp [oA, oL]))
  have k49 := g2 a1 _ ka1 (gM_ne ka1 k33 (by simp [eE, v0E, oL]))
  have N2 : ∀ b e, M b = some e → (∀ fs, e ≠ .inr (0, fs)) → b ≠ a2 := fun b e hb hne => gM_nn za2 (FR1x b e hb hne)
  have FR2x : ∀ b e, M b = some e → (∀ fs, e ≠ .inr (0, fs)) → M37 b = some e := fun b e hb hne => g2 b e (FR1x b e hb hne) (gM_ne (FR1x b e hb hne) k33 (hne _))
  refine lv_iinc (v := 3) (lv' := [(6, .int 3), (5, .int 0), (0, .ref x), (1, .ref (ad (4 + i0))), (2, .int kd), (3, .int nm), (4, .int rf)]) hx hb dX6_makeEntity_52 hl (k := 0) rfl (by decide) (by decide) rfl (fun ls hl => ?_)
  refine lv_goto (tgt := 31) hx hb dX6_makeEntity_55 (by decide) ?_
  refine lv_iload hx hb dX6_makeEntity_31 (lv_at hl 0 rfl) ?_
  refine lv_aload_n hx hb dX6_makeEntity_33 rfl (lv_at hl 2 rfl) ?_
  refine m_get X iX6 hK hw k38 rfl 3 (by decide) (ref := "ObjectMapper") (by decide +kernel) (Or.inl rfl) rfl dX6_makeEntity_34 ?_
  refine m_alen X hK hw k40 4 rfl dX6_makeEntity_37 ?_
  refine W.eq (g2 := F0 m 38 ls [.int 3, .int 3]) rfl ?_
  refine lv_icmp_ge (tgt := 58) hx hb dX6_makeEntity_38 (by decide) (fun _ => ?_) (fun c_38 => absurd (by decide) c_38)
  refine lv_aload_n hx hb dX6_makeEntity_58 rfl (lv_at hl 3 rfl) ?_
  refine lv_iload_n hx hb dX6_makeEntity_59 rfl (lv_at hl 4 rfl) ?_
  refine lv_iload hx hb dX6_makeEntity_60 (lv_at hl 1 rfl) ?_
  obtain ⟨qo, ao, o1, o2, o3, o4, o5⟩ : ∃ qo ao, M37 (if kd = 0 then ad (12 + 2 * i0) else ad (13 + 2 * i0)) = some (oL (0 + 1) qo 1) ∧ M37 qo = some (oA G 10 (va_up (fun _ => none) 0 (some ao))) ∧ M37 ao = some (eE v0E) ∧ (∀ b e, M b = some e → (∀ fs, e ≠ .inr (0, fs)) → b ≠ ao) ∧ M37 (ad (4 + i0)) = some (oS (ad (12 + 2 * i0)) (ad (13 + 2 * i0)) (ad (40 + i0))) := by
    rcases (show i0 = 0 ∨ i0 = 1 ∨ i0 = 2 by omega) with rfl | rfl | rfl
    · exact ⟨q0, a0, k44, k45, k46, N0, k41⟩
    · exact ⟨q1, a1, k47, k48, k49, N1, k42⟩
    · exact ⟨q2, a2, kL2, kq2, ka2, N2, k43⟩
  refine m_callVr X (ci := 5) rfl o5 hK hw hZ hS hA (As := [.int kd, .int 0]) (rest := []) (c_X4_entityAt_in l G dce _ M37 (ad (4 + i0)) (ad (12 + 2 * i0)) (ad (13 + 2 * i0)) (ad (40 + i0)) o5 kd (0 + 1) 1 0 10 ao qo (va_up (fun _ => none) 0 (some ao)) v0E o1 o2 (by decide) (by decide) (by decide) rfl o3) (cwV 2 hts gX6_makeEntity_X4_entityAt rfl rfl rfl (by decide +kernel) ⟨Nat.le_of_ble_eq_true rfl, Nat.le_of_ble_eq_true rfl⟩) rfl hl.1 rfl (Nat.le_of_ble_eq_true rfl) dX6_makeEntity_62 (Nat.le_of_ble_eq_true rfl) (Nat.le_of_ble_eq_true rfl) (fun r51 M50 H locs hp hw hS hz hk => ?_)
  rw [hp.2] at hw
  rw [hp.1]
  refine lv_iload_n hx hb dX6_makeEntity_65 rfl (lv_at hl 5 rfl) ?_
  refine lv_iload hx hb dX6_makeEntity_66 (lv_at hl 6 rfl) ?_
  refine m_callVv X (ci := 1) rfl o3 hK hw hZ hS hA (As := [.int nm, .int rf]) (rest := []) (c_X0_make l G dce _ M37 ao v0E o3 nm rf) (cwV 2 hts gX6_makeEntity_X0_make rfl rfl rfl (by decide +kernel) ⟨Nat.le_of_ble_eq_true rfl, Nat.le_of_ble_eq_true rfl⟩) rfl hl.1 rfl (Nat.le_of_ble_eq_true rfl) dX6_makeEntity_68 (Nat.le_of_ble_eq_true rfl) (Nat.le_of_ble_eq_true rfl) (fun M52 H locs hp hw hS hz hk => ?_)
  have eM52 := hp
  refine lv_iload hx hb dX6_makeEntity_71 (lv_at hl 1 rfl) ?_
  exact m_iret X hK hw hS ⟨rfl, fun b e hb hne => by rw [eM52]; exact mu_g (FR2x b e hb hne) (o4 b e hb hne)⟩ (by omega) (by omega) dX6_makeEntity_73
set_option maxHeartbeats 4000000 in
set_option maxRecDepth 100000 in
theorem c_X6_makeAuthor_0 (l : Launch) (G : gG) (dce sz : Nat) (M : gM) (hlt : l.stackTraces = false) (x : Nat) (ad : Nat → Nat) (hc : cS0 G dce M x ad) (si nm : Int32) : xI l yX6_makeAuthor wsX6_makeAuthor ({ frames := 7, cells := 10, slots := 80, locals := 149 }) G dce sz M [.ref x, .int si, .int nm] (fun r M' => r = 0 ∧ (sOK si = true ∧ nOK nm = true) ∧ ∀ b e, M b = some e → (∀ fs, e ≠ .inr (0, fs)) → M' b = some e) (fun E M' => E = (if sOK si then xIAE else xIOB) ∧ (sOK si && nOK nm) = false ∧ M' = M) (10) (80) := by
  obtain ⟨hX, hT, ⟨f, hsa, hf⟩, hS3, ⟨fa, fr, hj, hja, hjr⟩, hdis⟩ := id hc
  have hX : M x = some (.inr (7, [.ref (ad 0), .ref (ad 1), .ref (ad 2), .ref (ad 3)])) := hX
  have hj : M (ad 2) = some (.inr (3, [.int 0, .ref (ad 50), .ref (ad 51)])) := hj
  refine xMet (Qc := QI G _) (XC := QX G _) (cc := cX6_makeAuthor) (maxL := 4) (ret := (some .int)) (by decide) rfl (Nat.le_of_ble_eq_true rfl) ?_
  intro p e s m below meth c A ls X hno hnm hw hK hZ hA hS hsz eA hl
  obtain ⟨hx, hb, hr, hts, hown, hlk, hml⟩ := id X
  have hl : lv_has ls 4 [(0, .ref x), (1, .int si), (2, .int nm)] := hl
  refine lv_aload_n hx hb dX6_makeAuthor_0 rfl (lv_at hl 0 rfl) ?_
  refine lv_iload_n hx hb dX6_makeAuthor_1 rfl (lv_at hl 1 rfl) ?_
  refine x_callVr X (ci := 7) rfl hX hK hw hZ hS hA (As := [.int si]) (rest := []) (c_X6_sessionAt l G dce _ M hlt x (ad 0) (ad 1) (ad 2) (ad 3) hX f (fun i => ad (4 + i)) hsa hf si) (cwV 1 hts gX6_makeAuthor_X6_sessionAt rfl rfl rfl (by decide +kernel) ⟨Nat.le_of_ble_eq_true rfl, Nat.le_of_ble_eq_true rfl⟩) rfl hl.1 rfl (Nat.le_of_ble_eq_true rfl) dX6_makeAuthor_2 (Nat.le_of_ble_eq_true rfl) (Nat.le_of_ble_eq_true rfl) (fun E ce q9 M1 H locs hp hw hS hz hk hce hcv hcl9 => ?_) (fun r2 M1 H locs hp hw hS hz hk => ?_)
  · exact m_out X hno hK hw hS hce hcv hcl9 (by omega) (by omega) (⟨by simp [hp.1, hp.2.1], by simp [hp.2.1], hp.2.2⟩)
  obtain ⟨⟨i, hi, ei, er⟩, hso, eM⟩ := hp
  have er : r2 = ad (4 + i) := er
  subst er
  rw [eM] at hw
  obtain ⟨hs0, hla, hlb, hnb⟩ := hS3 i hi
  have hs0 : M (ad (4 + i)) = some (.inr (5, [.ref (ad (12 + 2 * i)), .ref (ad (13 + 2 * i)), .ref (ad (40 + i))])) := hs0
  refine lv_astore_n (lv' := [(3, .ref (ad (4 + i))), (0, .ref x), (1, .int si), (2, .int nm)]) hx hb dX6_makeAuthor_5 rfl hl (by decide) rfl (fun ls hl => ?_)
  refine lv_iload_n hx hb dX6_makeAuthor_6 rfl (lv_at hl 3 rfl) ?_
  refine x_callSv X hK hw hZ hS hA (As := [.int nm]) (rest := []) (c_X6_checkRangeOfName l G dce _ M hlt nm) (va_cwS 1 hts gX6_makeAuthor_X6_checkRangeOfName rfl rfl rfl (by decide +kernel) ⟨Nat.le_of_ble_eq_true rfl, Nat.le_of_ble_eq_true rfl⟩) rfl hl.1 rfl (Nat.le_of_ble_eq_true rfl) dX6_makeAuthor_7 (Nat.le_of_ble_eq_true rfl) (Nat.le_of_ble_eq_true rfl) (fun E ce q9 M3 H locs hp hw hS hz hk hce hcv hcl9 => ?_) (fun M3 H locs hp hw hS hz hk => ?_)
  · exact m_out X hno hK hw hS hce hcv hcl9 (by omega) (by omega) (⟨by simp [hp.1, hp.2.1, hso], by simp [hp.2.1], hp.2.2⟩)
  have hno1 := hp.1
  rw [hp.2] at hw
  refine lv_aload_n hx hb dX6_makeAuthor_10 rfl (lv_at hl 1 rfl) ?_
  refine lv_aload_n hx hb dX6_makeAuthor_11 rfl (lv_at hl 0 rfl) ?_
  refine lv_iconst (v := 0) hx hb dX6_makeAuthor_12 (by decide) ?_
  refine lv_iload_n hx hb dX6_makeAuthor_13 rfl (lv_at hl 3 rfl) ?_
  refine lv_iconst (v := (-1)) hx hb dX6_makeAuthor_14 (by decide) ?_
  refine m_callVi X (ci := 7) rfl hX hK hw hZ hS hA (As := [.ref (ad (4 + i)), .int 0, .int nm, .int (-1)]) (rest := []) (c_X6_makeEntity_0 l G dce _ M x ad hc i hi 0 nm (-1)) (cwV 4 hts gX6_makeAuthor_X6_makeEntity rfl rfl rfl (by decide +kernel) ⟨Nat.le_of_ble_eq_true rfl, Nat.le_of_ble_eq_true rfl⟩) rfl hl.1 rfl (Nat.le_of_ble_eq_true rfl) dX6_makeAuthor_15 (Nat.le_of_ble_eq_true rfl) (Nat.le_of_ble_eq_true rfl) (fun r5 M4 H locs hp hw hS hz hk => ?_)
  have hfr := hp.2
  rw [hp.1]
  refine vx_ret ?_
  exact m_iret X hK hw hS ⟨rfl, ⟨hso, hno1⟩, hfr⟩ (by omega) (by omega) dX6_makeAuthor_18
