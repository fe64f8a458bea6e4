/-! A WHOLE FLUSH: the same on both sides -/
theorem P_it {P : cZ → mW → Prop} {F : Nat → cZ → cZ} {F' : Nat → mW → mW} {N0 : Nat → Nat} {n : Nat} (hN : ∀ j z, zN (F j z) = zN z) (h : ∀ j z w, j < n → zN z = N0 → P z w → P (F j z) (F' j w)) {z : cZ} {w : mW} (hz : zN z = N0) (hP : P z w) : P (itr F n z) (itm F' n w) := by
  induction n with
  | zero => exact hP
  | succ n ih => exact h n _ _ (by omega) ((itr_N hN n z).trans hz) (ih (fun j z w hj => h j z w (by omega)))
/-- a new book's author is there -/
def nB (i : Nat) (z : cZ) : Prop := ∀ j, j < zN z 1 → fNew (zE z (sL i 1) j) = true → eRf (zE z (sL i 1) j) = -1 ∨ (rV z 0 (eRf (zE z (sL i 1) j))).1 = true
theorem zU.v {z z1 : cZ} {i j : Nat} {r : vR} {e : vE} (h : zU z z1 i 1 j r e) (ky : Int32) : rV z1 0 ky = rV z 0 ky := by
  unfold rV
  rw [h.1]
  split
  · rw [h.2.1 0 _ (by decide), if_neg (fun q => absurd q.1 (by decide))]
  · rfl
theorem nB.b {i j : Nat} {z : cZ} (hi : i < 3) (h : nB i z) : nB i (kIb i j z) := by
  unfold kIb
  split
  · rename_i hn
    have u := kIn_U (z := z) (i := i) (k := 1) (j := j) (rf := eRf (zE z (sL i 1) j)) (by decide)
    intro c hc hn2
    rw [u.1] at hc
    rw [u.2.2 i 1 c hi (by decide)] at hn2 ⊢
    rw [u.v]
    by_cases q : c = j
    · rw [if_pos ⟨rfl, rfl, q⟩] at hn2
      generalize zE z (sL i 1) j = v at hn2
      obtain ⟨b1, b2, b3, nm, rf, sn, sr, sv⟩ := v
      have h9 : (b1 && !true) = true := hn2
      simp at h9
    · rw [if_neg (fun r => q r.2.2)] at hn2 ⊢
      exact h c hc hn2
  · exact h
/-- behind the authors: who was to be there is -/
theorem ia_there {i : Nat} (hi : i < 3) (z : cZ) : ∀ n, n ≤ zN z 0 → (∀ c, zE (itr (kIa i) n z) (sL i 1) c = zE z (sL i 1) c) ∧ (∀ c, zR (itr (kIa i) n z) 1 c = zR z 1 c) ∧ ∀ c, c < zN z 0 → (zR (itr (kIa i) n z) 0 c).1 = ((decide (c < n) && fNew (zE z (sL i 0) c)) || (zR z 0 c).1) ∧ (n ≤ c → zE (itr (kIa i) n z) (sL i 0) c = zE z (sL i 0) c) := by
  intro n
  induction n with
  | zero => intro _; exact ⟨fun _ => rfl, fun _ => rfl, fun c _ => ⟨by rw [decide_eq_false (Nat.not_lt_zero c)]; rfl, fun _ => rfl⟩⟩
  | succ n ih =>
    intro hn
    obtain ⟨i1, i2, i3⟩ := ih (by omega)
    have hen := (i3 n (by omega)).2 (Nat.le_refl n)
    show (∀ c, zE (kIa i n (itr (kIa i) n z)) (sL i 1) c = _) ∧ (∀ c, zR (kIa i n (itr (kIa i) n z)) 1 c = _) ∧ ∀ c, c < zN z 0 → (zR (kIa i n (itr (kIa i) n z)) 0 c).1 = _ ∧ (n + 1 ≤ c → zE (kIa i n (itr (kIa i) n z)) (sL i 0) c = _)
    generalize itr (kIa i) n z = zz at i1 i2 i3 hen ⊢
    unfold kIa
    rw [hen]
    split
    · rename_i q
      generalize (if (rV zz 1 (eRf (zE z (sL i 0) n))).1 = true then eRf (zE z (sL i 0) n) else -1) = rf9
      have u := kIn_U (z := zz) (i := i) (k := 0) (j := n) (rf := rf9) (by decide)
      refine ⟨fun c => ?_, fun c => ?_, fun c hc => ⟨?_, fun hc2 => ?_⟩⟩
      · rw [u.2.2 i 1 c hi (by decide), if_neg (fun r => absurd r.2.1 (by decide))]
        exact i1 c
      · rw [u.2.1 1 c (by decide), if_neg (fun r => absurd r.1 (by decide))]
        exact i2 c
      · rw [u.2.1 0 c (by decide)]
        by_cases e : c = n
        · rw [if_pos ⟨rfl, e⟩, e, decide_eq_true (Nat.lt_succ_self n), q]
          rfl
        · rw [if_neg (fun r => e r.2), (i3 c hc).1]
          by_cases l : c < n
          · rw [decide_eq_true l, decide_eq_true (show c < n + 1 by omega)]
          · rw [decide_eq_false l, decide_eq_false (show ¬ c < n + 1 by omega)]
      · rw [u.2.2 i 0 c hi (by decide), if_neg (fun r => by have := r.2.2; omega)]
        exact (i3 c hc).2 (by omega)
    · rename_i q
      refine ⟨i1, i2, fun c hc => ⟨?_, fun hc2 => (i3 c hc).2 (by omega)⟩⟩
      rw [(i3 c hc).1]
      by_cases e : c = n
      · rw [e, decide_eq_false (Nat.lt_irrefl n), decide_eq_true (Nat.lt_succ_self n), show fNew (zE z (sL i 0) n) = false from by simpa using q]
        rfl
      · by_cases l : c < n
        · rw [decide_eq_true l, decide_eq_true (show c < n + 1 by omega)]
        · rw [decide_eq_false l, decide_eq_false (show ¬ c < n + 1 by omega)]
theorem th_in {i k : Nat} {ky : Int32} {z : cZ} (hn : ∀ u, u < 8 → zN z u ≤ 1024) (hq : cEq z) (hi : i < 3) (hk : k < 2) : thB i k ky z = if inK (zN z k) ky = true then (fNew (zE z (sL i k) ky.toNatClampNeg) || (!(zE z (sL i k) ky.toNatClampNeg).2.1 && (zR z k ky.toNatClampNeg).1)) else false := by
  unfold thB eV rV
  rw [hq i k hi hk]
  split
  · rfl
  · rfl
theorem nB.of {i : Nat} {z : cZ} (hi : i < 3) (hq : cEq z) (hn : ∀ u, u < 8 → zN z u ≤ 1024) (hd : ∀ j, j < zN z 1 → fNew (zE z (sL i 1) j) = true → eRf (zE z (sL i 1) j) = -1 ∨ thB i 0 (eRf (zE z (sL i 1) j)) z = true) : nB i (kF1 i z) := by
  unfold kF1
  rw [hq i 0 hi (by decide)]
  obtain ⟨i1, i2, i3⟩ := ia_there hi z (zN z 0) (Nat.le_refl _)
  have hN : zN (itr (kIa i) (zN z 0) z) = zN z := itr_N (kIa_st i).N _ _
  intro j hj hn2
  rw [hN] at hj
  rw [i1] at hn2 ⊢
  rcases hd j hj hn2 with q | q
  · exact Or.inl q
  · refine Or.inr ?_
    rw [th_in hn hq hi (by decide)] at q
    unfold rV
    rw [hN]
    by_cases h : inK (zN z 0) (eRf (zE z (sL i 1) j)) = true
    · rw [if_pos h] at q ⊢
      obtain ⟨c, hc, e⟩ := inK_n (hn 0 (by decide)) h
      have hb := hn 0 (by decide)
      rw [e, nI_clamp (by omega)] at q ⊢
      rw [(i3 c hc).1, decide_eq_true hc, Bool.true_and]
      cases h1 : fNew (zE z (sL i 0) c)
      · rw [h1, Bool.false_or, Bool.and_eq_true] at q
        rw [q.2]
        rfl
      · rfl
    · rw [if_neg h] at q
      exact absurd q (by decide)
/-- what is left of the removed ones -/
theorem de_gone {i k : Nat} (hi : i < 3) (hk : k < 2) (z : cZ) : ∀ n, (∀ c, c < n → gone i (itr (kDe i k) n z) k c = false) ∧ ∀ b c, b < 2 → b ≠ k → gone i (itr (kDe i k) n z) b c = gone i z b c := by
  intro n
  induction n with
  | zero => exact ⟨fun c hc => absurd hc (Nat.not_lt_zero c), fun _ _ _ _ => rfl⟩
  | succ n ih =>
    obtain ⟨i1, i2⟩ := ih
    show (∀ c, c < n + 1 → gone i (kDe i k n (itr (kDe i k) n z)) k c = false) ∧ ∀ b c, b < 2 → b ≠ k → gone i (kDe i k n (itr (kDe i k) n z)) b c = _
    generalize itr (kDe i k) n z = zz at i1 i2 ⊢
    unfold kDe
    split
    · have u := kDl_U (z := zz) (i := i) (k := k) (j := n) hk
      refine ⟨fun c hc => ?_, fun b c hb hne => ?_⟩
      · rw [u.g hi hk]
        by_cases e : c = n
        · rw [if_pos ⟨rfl, e⟩]
          rfl
        · rw [if_neg (fun r => e r.2)]
          exact i1 c (by omega)
      · rw [u.g hi hb, if_neg (fun r => hne r.1)]
        exact i2 b c hb hne
    · rename_i q
      refine ⟨fun c hc => ?_, i2⟩
      by_cases e : c = n
      · rw [e]
        show (zE (zz) (sL i k) n).2.1 = false
        simpa using q
      · exact i1 c (by omega)
theorem FI.all {i : Nat} {z : cZ} {w : mW} (h : RZ z w) (hq : cEq z) (hI : mInv w) (hi : i < 3) (hn : ∀ u, u < 8 → zN z u ≤ 1024) (hc : NC i z) (hd : ∀ j, j < zN z 1 → fNew (zE z (sL i 1) j) = true → eRf (zE z (sL i 1) j) = -1 ∨ thB i 0 (eRf (zE z (sL i 1) j)) z = true) : RZ (kFl i z) (mFl i w) := by
  have hB := nB.of hi hq hn hd
  have K0 := h.1 0 (by decide)
  have K1 := h.1 1 (by decide)
  have c0 := hq i 0 hi (by decide)
  have c1 := hq i 1 hi (by decide)
  have N1 : zN (kF1 i z) = zN z := itr_N (kIa_st i).N _ _
  have f1 : FI i (kF1 i z) (itm (mIn i 0) (rdK w 0) w) := by
    unfold kF1
    rw [c0, ← K0]
    exact P_it (P := FI i) (N0 := zN z) (kIa_st i).N (fun j z2 w2 hj hz2 h2 => h2.ia hi (by rw [hz2]; exact hj)) rfl ⟨h.f i, hI, hc⟩
  have N2 : zN (kF2 i (kF1 i z)) = zN z := (itr_N (kIb_st i).N _ _).trans N1
  have f2 : FI i (kF2 i (kF1 i z)) (itm (mIn i 1) (rdK w 1) (itm (mIn i 0) (rdK w 0) w)) := by
    unfold kF2
    rw [N1, c1, ← K1]
    exact (P_it (P := fun z w => FI i z w ∧ nB i z) (N0 := zN z) (kIb_st i).N (fun j z2 w2 hj hz2 h2 => ⟨h2.1.ib hi (by rw [hz2]; exact hj) (h2.2 j (by rw [hz2]; exact hj)), h2.2.b hi⟩) N1 ⟨f1, hB⟩).1
  have up : ∀ k, k < 2 → ∀ z2 w2, zN z2 = zN z → FI i z2 w2 → FI i (kF3 i k z2) (itm (mUp i k) (rdK w k) w2) ∧ zN (kF3 i k z2) = zN z := fun k hk z2 w2 hz2 h2 => by
    unfold kF3
    rw [hz2, hq i k hi hk, ← h.1 k hk]
    exact ⟨P_it (P := FI i) (N0 := zN z) (kUp_st i k).N (fun j z3 w3 hj hz3 h3 => h3.u hi hk (by rw [hz3]; exact hj)) hz2 h2, (itr_N (kUp_st i k).N _ _).trans hz2⟩
  have de : ∀ k, k < 2 → ∀ z2 w2, zN z2 = zN z → FI i z2 w2 → FI i (kF4 i k z2) (itm (mDe i k) (rdK w k) w2) ∧ zN (kF4 i k z2) = zN z := fun k hk z2 w2 hz2 h2 => by
    unfold kF4
    rw [hz2, hq i k hi hk, ← h.1 k hk]
    exact ⟨P_it (P := FI i) (N0 := zN z) (kDe_st i k).N (fun j z3 w3 hj hz3 h3 => h3.d hi hk (by rw [hz3]; exact hj)) hz2 h2, (itr_N (kDe_st i k).N _ _).trans hz2⟩
  have f3 := up 0 (by decide) _ _ N2 f2
  have f4 := up 1 (by decide) _ _ f3.2 f3.1
  have f5 := de 1 (by decide) _ _ f4.2 f4.1
  have f6 := de 0 (by decide) _ _ f5.2 f5.1
  refine RLf.t f6.1.1 (fun k j hk hj => ?_)
  have N6 : zN (kFl i z) = zN z := f6.2
  have hj : j < zN z k := by
    have h9 : j < zN (kFl i z) k := hj
    rw [N6] at h9
    exact h9
  show gone i (itr (kDe i 0) (zN (kF4 i 1 (kF3 i 1 (kF3 i 0 (kF2 i (kF1 i z))))) (sL i 0)) (kF4 i 1 (kF3 i 1 (kF3 i 0 (kF2 i (kF1 i z)))))) k j = false
  rw [f5.2, c0]
  rcases (show k = 0 ∨ k = 1 by omega) with rfl | rfl
  · exact (de_gone hi (by decide) _ _).1 j hj
  · rw [(de_gone hi (by decide) _ _).2 1 j (by decide) (by decide)]
    show gone i (itr (kDe i 1) (zN (kF3 i 1 (kF3 i 0 (kF2 i (kF1 i z)))) (sL i 1)) (kF3 i 1 (kF3 i 0 (kF2 i (kF1 i z))))) 1 j = false
    rw [f4.2, c1]
    exact (de_gone hi (by decide) _ _).1 j hj
/-- a flush fails on both sides or on none -/
theorem anyN_all {p q : Nat → Bool} : ∀ {n : Nat}, (∀ j, j < n → p j = !q j) → anyN p n = !allN q n := by
  intro n
  induction n with
  | zero => intro _; rfl
  | succ n ih =>
    intro h
    show (anyN p n || p n) = !(allN q n && q n)
    rw [ih (fun j hj => h j (by omega)), h n (by omega), Bool.not_and]
theorem RZ.th {z : cZ} {w : mW} (h : RZ z w) {i k j : Nat} (hi : i < 3) (hk : k < 2) (hj : j < zN z k) : fClash (zE z (sL i k) j) (zR z k j) = !mTh w i k j := by
  have f := h.f i
  have he := h.2.2.1 i k j hi hk hj
  have hr := h.2.1 k j hk hj
  unfold mTh
  rw [h.hr hk hj, f.gn hi hk hj, f.dr hi hk hj]
  have hsv : (zE z (sL i k) j).2.2.1 = true → (zE z (sL i k) j).2.2.2.2.2.2.2 = rdT w 13 (aP i k j) := fun q => congrArg (fun q => q.2.2) (he.2.2.2.2.2.2 q)
  have hve : (zR z k j).1 = true → (zR z k j).2.2.2 = rdT w 5 (rP k j) := fun q => congrArg (fun q => q.2.2) (hr.2 q)
  have h4 := he.2.2.2.2.1
  rw [show gone i z k j = (zE z (sL i k) j).2.1 from rfl]
  have h3 : fChg (zE z (sL i k) j) = true → (zE z (sL i k) j).2.2.1 = true := fChg_3
  rw [show fClash (zE z (sL i k) j) (zR z k j) = ((fChg (zE z (sL i k) j) || (zE z (sL i k) j).2.1) && (!(zR z k j).1 || decide ((zR z k j).2.2.2 ≠ (zE z (sL i k) j).2.2.2.2.2.2.2))) from rfl]
  cases ht : (zR z k j).1
  · cases fChg (zE z (sL i k) j) <;> cases (zE z (sL i k) j).2.1 <;> rfl
  · rw [hve ht]
    cases hf : fChg (zE z (sL i k) j)
    · cases hg : (zE z (sL i k) j).2.1
      · simp
      · rw [hsv (h4 hg)]
        simp
    · rw [hsv (h3 hf)]
      simp
theorem RZ.wb {z : cZ} {w : mW} (h : RZ z w) (hI : mInv w) {i k j : Nat} (hi : i < 3) (hk : k < 2) (hj : j < zN z k) : decide (rdT (mWbs i w) 6 (rP k j) ≠ 0) = (fNew (zE z (sL i k) j) || (!(zE z (sL i k) j).2.1 && (zR z k j).1)) := by
  have f := h.f i
  have hn := h.n hk
  rw [mWbs_6 (hI.2.2 0 (by decide)) (hI.2.2 1 (by decide)) hk (by rw [← h.1 k hk]; exact hj) (by omega), f.md hi hk hj, h.hr hk hj, f.gn hi hk hj]
  rw [show gone i z k j = (zE z (sL i k) j).2.1 from rfl, Bool.and_comm (zR z k j).1]
  cases (fNew (zE z (sL i k) j) || (!(zE z (sL i k) j).2.1 && (zR z k j).1)) <;> decide
theorem RZ.wh {z : cZ} {w : mW} (h : RZ z w) (hq : cEq z) (hI : mInv w) (hn8 : ∀ u, u < 8 → zN z u ≤ 1024) {i k j : Nat} (hi : i < 3) (hk : k < 2) (hj : j < zN z k) : (thB i k (nI j) z && (!decide (rfB i k (nI j) z = -1)) && !thB i (1 - k) (rfB i k (nI j) z) z) = !mWh (mWbs i w) i k j := by
  have f := h.f i
  have hn := h.n hk
  have l : mLk w (mWbs i w) := mWbs_L
  have hk2 : 1 - k < 2 := by omega
  have hn2 := h.n hk2
  have hwb := h.wb hI hi hk hj
  have hth : thB i k (nI j) z = (fNew (zE z (sL i k) j) || (!(zE z (sL i k) j).2.1 && (zR z k j).1)) := by
    rw [th_in hn8 hq hi hk, if_pos (inK_of hn hj), nI_clamp (by omega)]
  rw [hth, ← hwb]
  unfold mWh
  by_cases h6 : rdT (mWbs i w) 6 (rP k j) = 0
  · rw [decide_eq_true h6, decide_eq_false (fun q => q h6)]
    rfl
  · rw [decide_eq_false h6, decide_eq_true h6, Bool.true_and, Bool.false_or]
    -- the reference behind the writes is the same
    have hp := mWp_of hI hi k j hk (by rw [l.1, ← h.1 k hk]; exact hj) h6
    rw [decide_eq_true h6] at hwb
    have hrf : rfB i k (nI j) z = mRf (mWbs i w) i k j := by
      unfold rfB mRf
      rw [eV_in (by rw [hq i k hi hk]; exact hn) (by rw [hq i k hi hk]; exact hj), rV_in hn hj, l.Md, l.Dr, l.2.2 10 (by decide), l.2.2 4 (by decide), f.md hi hk hj, f.dr hi hk hj]
      have he := f.2.2.1 i k j hi hk hj
      cases hw : fNew (zE z (sL i k) j)
      · rw [hw, Bool.false_or] at hwb
        have hwb := (Bool.and_eq_true _ _).mp hwb.symm
        have hg : gone i z k j = false := by
          show (zE z (sL i k) j).2.1 = false
          simpa using hwb.1
        rw [hg, Bool.false_or, Bool.false_or, Bool.not_false, Bool.and_true]
        split
        · rename_i hc
          exact ((f.ct hi hk hj hg).1 (he.b1 (fChg_3 hc))).2
        · exact congrArg (fun q => q.2.1) ((h.2.1 k j hk hj).2 hwb.2)
      · rw [Bool.true_or, if_pos rfl, Bool.true_or, if_pos rfl]
        exact ((f.ct hi hk hj (he.ng hw)).1 (fNew_1 hw).1).2
    rw [hrf]
    rcases hp with e | ⟨q, hq2, e⟩
    · rw [e]
      rfl
    · rw [l.1, ← h.1 _ hk2] at hq2
      have hw2 := h.wb hI hi hk2 hq2
      rw [e, nI_clamp (by omega), decide_eq_false (nI_nm1 (by omega)), th_in hn8 hq hi hk2, if_pos (inK_of hn2 hq2), nI_clamp (by omega), ← hw2]
      by_cases h7 : rdT (mWbs i w) 6 (rP (1 - k) q) = 0
      · rw [decide_eq_true h7, decide_eq_false (fun r => r h7)]
        rfl
      · rw [decide_eq_false h7, decide_eq_true h7]
        rfl
theorem fl_eq {z : cZ} {w : mW} (h : RZ z w) (hq : cEq z) (hI : mInv w) (hn8 : ∀ u, u < 8 → zN z u ≤ 1024) {i : Nat} (hi : i < 3) : (kCla i z || kDan i z) = !mCan w i := by
  have c0 := hq i 0 hi (by decide)
  have c1 := hq i 1 hi (by decide)
  have l : mLk w (mWbs i w) := mWbs_L
  have a : kCla i z = !mThs w i := by
    unfold kCla mThs
    rw [c0, c1, anyN_all (fun j hj => h.th hi (by decide) hj), anyN_all (fun j hj => h.th hi (by decide) hj), h.1 0 (by decide), h.1 1 (by decide)]
    cases allN (mTh w i 0) (rdK w 0) <;> cases allN (mTh w i 1) (rdK w 1) <;> rfl
  have b : kDan i z = !mWhs (mWbs i w) i := by
    unfold kDan mWhs
    rw [c0, c1, anyN_all (fun j hj => h.wh hq hI hn8 hi (k := 0) (by decide) hj), anyN_all (fun j hj => h.wh hq hI hn8 hi (k := 1) (by decide) hj), h.1 0 (by decide), h.1 1 (by decide), l.1]
    cases allN (mWh (mWbs i w) i 0) (rdK w 0) <;> cases allN (mWh (mWbs i w) i 1) (rdK w 1) <;> rfl
  rw [a, b]
  unfold mCan
  cases mThs w i <;> cases mWhs (mWbs i w) i <;> rfl
theorem anyN_f {p : Nat → Bool} : ∀ {n : Nat}, anyN p n = false → ∀ j, j < n → p j = false := by
  intro n
  induction n with
  | zero => intro _ j hj; exact absurd hj (Nat.not_lt_zero j)
  | succ n ih =>
    intro h j hj
    have h : (anyN p n || p n) = false := h
    rw [Bool.or_eq_false_iff] at h
    by_cases e : j = n
    · rw [e]; exact h.2
    · exact ih h.1 j (by omega)
theorem NC.of {i : Nat} {z : cZ} (hq : cEq z) (hi : i < 3) (h : kCla i z = false) : NC i z := by
  unfold kCla at h
  rw [Bool.or_eq_false_iff] at h
  intro k j hk hj
  rcases (show k = 0 ∨ k = 1 by omega) with rfl | rfl
  · exact anyN_f h.1 j (by rw [hq i 0 hi (by decide)]; exact hj)
  · exact anyN_f h.2 j (by rw [hq i 1 hi (by decide)]; exact hj)
/-- a flush that doesn't fail -/
theorem RZ.fl {i : Nat} {z : cZ} {w : mW} (h : RZ z w) (hq : cEq z) (hI : mInv w) (hi : i < 3) (hn : ∀ u, u < 8 → zN z u ≤ 1024) (hc : (kCla i z || kDan i z) = false) : RZ (kFl i z) (mFl i w) := by
  rw [Bool.or_eq_false_iff] at hc
  refine FI.all h hq hI hi hn (NC.of hq hi hc.1) (fun j hj hw => ?_)
  have hd := hc.2
  unfold kDan at hd
  rw [Bool.or_eq_false_iff] at hd
  have hd := anyN_f hd.2 j (by rw [hq i 1 hi (by decide)]; exact hj)
  have hn1 := hn 1 (by decide)
  have hth : thB i 1 (nI j) z = true := by
    rw [th_in hn hq hi (by decide), if_pos (inK_of hn1 hj), nI_clamp (by omega), hw]
    rfl
  have hrf : rfB i 1 (nI j) z = eRf (zE z (sL i 1) j) := by
    unfold rfB
    rw [eV_in (by rw [hq i 1 hi (by decide)]; exact hn1) (by rw [hq i 1 hi (by decide)]; exact hj), hw]
    rfl
  rw [hth, hrf, Bool.true_and] at hd
  by_cases e : eRf (zE z (sL i 1) j) = -1
  · exact Or.inl e
  · rw [decide_eq_false e, Bool.not_false, Bool.true_and] at hd
    exact Or.inr (by simpa using hd)
