/-! HOW MANY WRITES, 2: a flush takes from what was laid by -/
theorem rho_le (r : vR) : rho r ≤ 2 := by
  unfold rho
  split
  · split <;> decide
  · decide
def QF (n i : Nat) (z : cZ) : Prop := PT n z ∧ NC i z
theorem omg_ins {v : vE} {nm rf9 : Int32} (hn : fNew v = true) (hrf : rf9 = eRf v ∨ rf9 = -1) : 1 + (rho (true, nm, rf9, 0) + omg (fSnap v (true, eNm v, rf9, 0))) ≤ 4 := by
  obtain ⟨b1, b2, b3, nm9, rf, sn, sr, sv⟩ := v
  show 1 + (rho (true, nm, rf9, 0) + omg (b1, b2, true, nm9, rf, nm9, rf9, 0)) ≤ 4
  have h0 : fNew (b1, b2, true, nm9, rf, nm9, rf9, 0) = false := by
    show (b1 && !true) = false
    simp
  by_cases e : rf9 = rf
  · rw [omg_0 h0 (by
      show (true && (decide (nm9 ≠ nm9) || decide (rf ≠ rf9))) = false
      rw [e]
      simp)]
    have := rho_le (true, nm, rf9, 0)
    omega
  · have e1 : rf9 = -1 := hrf.resolve_left e
    have := omg_2 h0
    have h1 : rho (true, nm, rf9, 0) = 1 := by
      rw [e1]
      rfl
    omega
theorem QF.in {n i : Nat} {z : cZ} (h : QF n i z) (hi : i < 3) {k j : Nat} (hk : k < 2) (hj : j < zN z k) (hn : fNew (zE z (sL i k) j) = true) {rf : Int32} (hrf : rf = eRf (zE z (sL i k) j) ∨ rf = -1) : QF n i (kIn i k j rf z) := by
  have hK := h.1.1 k j hk hj
  obtain ⟨h1, h2, v, h3, h4, h5⟩ := hK
  have hW : zW (kIn i k j rf z) = zW z + 1 := rfl
  have h29 := h2 i hi hn
  have ho := omg_ins (nm := eNm (zE z (sL i k) j)) hn hrf
  have ho2 : omg (zE z (sL i k) j) = 4 := omg_4 hn
  refine ⟨PT.up (d := 0) h.1 hi hk hj (kIn_U hk) (by rw [hW]; omega) ?_ (by rw [hW]; omega), h.2.up hi (kIn_U hk) (fClash_t rfl rfl)⟩
  refine KI.w (v1 := 0) ⟨h1, h2, v, h3, h4, h5⟩ hi (Nat.zero_le _) rfl (fun _ => (fNew_1 hn).1) ?_ (fun a ha hne => ?_) (fun _ => ⟨rfl, rfl⟩) (fun a ha hne q => ?_)
  · show ((zE z (sL i k) j).1 && !true) = false
    simp
  · have h9 : (zE z (sL a k) j).1 = false := h29.2 a ha hne
    show ((zE z (sL a k) j).1 && _) = false
    rw [h9]
    rfl
  · have h9 : (zE z (sL a k) j).1 = false := h29.2 a ha hne
    have h8 : (zE z (sL a k) j).1 = true := h1 a ha q
    rw [h9] at h8
    exact absurd h8 (by decide)
theorem QF.ia {n i : Nat} {z : cZ} (h : QF n i z) (hi : i < 3) {j : Nat} (hj : j < zN z 0) : QF n i (kIa i j z) := by
  unfold kIa
  split
  · rename_i hn
    refine h.in hi (by decide) hj hn ?_
    split
    · exact Or.inl rfl
    · exact Or.inr rfl
  · exact h
theorem QF.ib {n i : Nat} {z : cZ} (h : QF n i z) (hi : i < 3) {j : Nat} (hj : j < zN z 1) : QF n i (kIb i j z) := by
  unfold kIb
  split
  · rename_i hn
    exact h.in hi (by decide) hj hn (Or.inl rfl)
  · exact h
theorem fUpd_e (r : vR) (a b : Int32) : fUpd r a b = (r.1, a, b, r.2.2.2 + 1) := rfl
theorem fSnap_e (v : vE) (r : vR) : fSnap v r = (v.1, v.2.1, true, eNm v, eRf v, r.2.1, r.2.2.1, r.2.2.2) := rfl
theorem nI_inj {a b : Nat} (ha : a < 2 ^ 31) (hb : b < 2 ^ 31) (h : nI a = nI b) : a = b := (nI_eq ha hb).mp h
theorem QF.u {n i : Nat} {z : cZ} (h : QF n i z) (hn9 : n < 2 ^ 30) (hi : i < 3) {k j : Nat} (hk : k < 2) (hj : j < zN z k) : QF n i (kUp i k j z) := by
  unfold kUp
  split
  · rename_i hc
    have hK := h.1.1 k j hk hj
    obtain ⟨h1, h2, v, h3, h4, h5⟩ := hK
    have hW : zW (kUd i k j z) = zW z + 1 := rfl
    have hz := h.1.2
    have h33 : (zE z (sL i k) j).2.2.1 = true := fChg_3 hc
    have h11 : (zE z (sL i k) j).1 = true := h1 i hi h33
    have hcl := fClash_f (h.2 k j hk hj) (by rw [hc]; rfl)
    obtain ⟨s, s1, s2, s3⟩ := h5 i hi h33
    have s2 : eSv (zE z (sL i k) j) = nI s := s2
    have hsv : s = v := by
      refine nI_inj (by omega) (by omega) ?_
      rw [← s2, ← h4]
      exact hcl.2.symm
    have hsr : eSr (zE z (sL i k) j) = (zR z k j).2.2.1 := s3 hsv hcl.1
    have hnw : fNew (zE z (sL i k) j) = false := by
      show ((zE z (sL i k) j).1 && !(zE z (sL i k) j).2.2.1) = false
      rw [h33]
      simp
    refine ⟨PT.up (d := 0) h.1 hi hk hj (kUd_U hk) (by rw [hW]; omega) ?_ ?_, h.2.up hi (kUd_U hk) (fClash_t hcl.1 rfl)⟩
    · refine KI.w (v1 := v + 1) ⟨h1, h2, v, h3, h4, h5⟩ hi (by rw [hW]; omega) ?_ (fun _ => h11) ?_ (fun a ha hne => ?_) (fun _ => ⟨?_, rfl⟩) (fun a ha hne q => ?_)
      · rw [fUpd_e, h4]
        exact nI_1 v
      · show ((zE z (sL i k) j).1 && !true) = false
        simp
      · cases q : fNew (zE z (sL a k) j)
        · rfl
        · have h9 : (zE z (sL i k) j).1 = false := (h2 a ha q).2 i hi (fun r => hne r.symm)
          rw [h9] at h11
          exact absurd h11 (by decide)
      · rw [fUpd_e, fSnap_e]
        show (zR z k j).2.2.2 + 1 = nI (v + 1)
        rw [h4]
        exact nI_1 v
      · obtain ⟨s9, t1, t2, t3⟩ := h5 a ha q
        exact ⟨s9, by omega, t2, fun e => by omega⟩
    · rw [hW, fUpd_e, fSnap_e]
      have o0 : omg ((zE z (sL i k) j).1, (zE z (sL i k) j).2.1, true, eNm (zE z (sL i k) j), eRf (zE z (sL i k) j), eNm (zE z (sL i k) j), eRf (zE z (sL i k) j), (zR z k j).2.2.2 + 1) = 0 := omg_0 (by
        show ((zE z (sL i k) j).1 && !true) = false
        simp) (by
        show (true && (decide (eNm (zE z (sL i k) j) ≠ eNm (zE z (sL i k) j)) || decide (eRf (zE z (sL i k) j) ≠ eRf (zE z (sL i k) j)))) = false
        simp)
      have e9 : omg ((zE z (sL i k) j).1, (zE z (sL i k) j).2.1, true, eNm (zE z (sL i k) j), eRf (zE z (sL i k) j), ((zR z k j).1, eNm (zE z (sL i k) j), eRf (zE z (sL i k) j), (zR z k j).2.2.2 + 1).2.1, ((zR z k j).1, eNm (zE z (sL i k) j), eRf (zE z (sL i k) j), (zR z k j).2.2.2 + 1).2.2.1, ((zR z k j).1, eNm (zE z (sL i k) j), eRf (zE z (sL i k) j), (zR z k j).2.2.2 + 1).2.2.2) = 0 := o0
      rw [e9]
      have r1 : rho (zR z k j) = if (zR z k j).2.2.1 = -1 then 1 else 2 := by
        unfold rho
        rw [if_pos hcl.1]
      have r2 : rho ((zR z k j).1, eNm (zE z (sL i k) j), eRf (zE z (sL i k) j), (zR z k j).2.2.2 + 1) = if eRf (zE z (sL i k) j) = -1 then 1 else 2 := by
        unfold rho
        exact if_pos hcl.1
      by_cases hz9 : eNm (zE z (sL i k) j) = eSn (zE z (sL i k) j) ∧ eRf (zE z (sL i k) j) = -1
      · have hne : ¬ (zR z k j).2.2.1 = -1 := fun q => by
          have hc9 : ((zE z (sL i k) j).2.2.1 && (decide (eNm (zE z (sL i k) j) ≠ eSn (zE z (sL i k) j)) || decide (eRf (zE z (sL i k) j) ≠ eSr (zE z (sL i k) j)))) = true := hc
          rw [hz9.1, hz9.2, hsr, q] at hc9
          simp at hc9
        rw [r1, r2, if_neg hne, if_pos hz9.2]
        omega
      · have o2 : omg (zE z (sL i k) j) = 2 := by
          unfold omg
          rw [if_neg (by rw [hnw]; decide), if_pos hc, if_neg hz9]
        rw [r1, r2, o2]
        split <;> split <;> omega
  · exact h
theorem QF.d {n i : Nat} {z : cZ} (h : QF n i z) (hi : i < 3) {k j : Nat} (hk : k < 2) (hj : j < zN z k) : QF n i (kDe i k j z) := by
  unfold kDe
  split
  · rename_i hc
    have hK := h.1.1 k j hk hj
    obtain ⟨h1, h2, v, h3, h4, h5⟩ := hK
    have hW : zW (kDl i k j z) = zW z + 1 := rfl
    have hcl := fClash_f (h.2 k j hk hj) (by rw [hc, Bool.or_true])
    have hr1 : 1 ≤ rho (zR z k j) := by
      unfold rho
      rw [if_pos hcl.1]
      split <;> omega
    have o0 : omg (fForget (zE z (sL i k) j)) = 0 := omg_0 rfl rfl
    have r0 : rho (fGo (zR z k j)) = 0 := rfl
    refine ⟨PT.up (d := 0) h.1 hi hk hj (kDl_U hk) (by rw [hW]; omega) ?_ (by rw [hW, o0, r0]; omega), h.2.up hi (kDl_U hk) ?_⟩
    · refine KI.w (v1 := v) ⟨h1, h2, v, h3, h4, h5⟩ hi (by rw [hW]; omega) h4 (fun q => ff q) rfl (fun a ha hne => ?_) (fun q => ff q) (fun a ha hne q => ?_)
      · cases q : fNew (zE z (sL a k) j)
        · rfl
        · have h9 := (h2 a ha q).1
          rw [hcl.1] at h9
          exact absurd h9 (by decide)
      · obtain ⟨s9, t1, t2, t3⟩ := h5 a ha q
        exact ⟨s9, t1, t2, fun _ q => ff q⟩
    · generalize zE z (sL i k) j = v9
      generalize zR z k j = r9
      obtain ⟨b1, b2, b3, nm, rf, sn, sr, sv⟩ := v9
      obtain ⟨t, rn, rr, rv⟩ := r9
      rfl
  · exact h
theorem PT.fl {n i : Nat} {z : cZ} (h : PT n z) (hn9 : n < 2 ^ 30) (hq : cEq z) (hi : i < 3) (hc : (kCla i z || kDan i z) = false) : PT n (kFl i z) := by
  rw [Bool.or_eq_false_iff] at hc
  have c0 := hq i 0 hi (by decide)
  have c1 := hq i 1 hi (by decide)
  have q0 : QF n i z := ⟨h, NC.of hq hi hc.1⟩
  have N1 : zN (kF1 i z) = zN z := itr_N (kIa_st i).N _ _
  have q1 : QF n i (kF1 i z) := by
    unfold kF1
    rw [c0]
    exact Q_it (Q := QF n i) (N0 := zN z) (kIa_st i).N (fun j z2 hj hz2 h2 => h2.ia hi (by rw [hz2]; exact hj)) rfl q0
  have N2 : zN (kF2 i (kF1 i z)) = zN z := (itr_N (kIb_st i).N _ _).trans N1
  have q2 : QF n i (kF2 i (kF1 i z)) := by
    unfold kF2
    rw [N1, c1]
    exact Q_it (Q := QF n i) (N0 := zN z) (kIb_st i).N (fun j z2 hj hz2 h2 => h2.ib hi (by rw [hz2]; exact hj)) N1 q1
  have up : ∀ k, k < 2 → ∀ z2, zN z2 = zN z → QF n i z2 → QF n i (kF3 i k z2) ∧ zN (kF3 i k z2) = zN z := fun k hk z2 hz2 h2 => by
    unfold kF3
    rw [hz2, hq i k hi hk]
    exact ⟨Q_it (Q := QF n i) (N0 := zN z) (kUp_st i k).N (fun j z3 hj hz3 h3 => h3.u hn9 hi hk (by rw [hz3]; exact hj)) hz2 h2, (itr_N (kUp_st i k).N _ _).trans hz2⟩
  have de : ∀ k, k < 2 → ∀ z2, zN z2 = zN z → QF n i z2 → QF n i (kF4 i k z2) ∧ zN (kF4 i k z2) = zN z := fun k hk z2 hz2 h2 => by
    unfold kF4
    rw [hz2, hq i k hi hk]
    exact ⟨Q_it (Q := QF n i) (N0 := zN z) (kDe_st i k).N (fun j z3 hj hz3 h3 => h3.d hi hk (by rw [hz3]; exact hj)) hz2 h2, (itr_N (kDe_st i k).N _ _).trans hz2⟩
  have f3 := up 0 (by decide) _ N2 q2
  have f4 := up 1 (by decide) _ f3.2 f3.1
  have f5 := de 1 (by decide) _ f4.2 f4.1
  exact (de 0 (by decide) _ f5.2 f5.1).1.1
