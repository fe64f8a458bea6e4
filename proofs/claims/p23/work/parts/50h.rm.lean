/-! P23, PURE: what goes, counted; what a flush leaves, counted -/
theorem fRefs_e (e : vE) (t : Int32) : fRefs e t = (fLive e && decide (eRf e = t)) := rfl
theorem rmB_kn {i b : Nat} {z : cZ} (hq : cEq z) (hi : i < 3) (hb : b < zN z 1) : tot fLive i z ≤ tot fLive i (kRmB i b z) + 1 := by
  have K := rmB_K (i := i) (b := b) (z := z) hi
  have h0 : cnt (fun j => fLive (zE z (sL i 0) j)) (zN z (sL i 0)) ≤ cnt (fun j => fLive (zE (kRmB i b z) (sL i 0) j)) (zN z (sL i 0)) := cnt_mono (fun j _ h => by
    have h1 := fLive_1 h
    have h2 := K.2.2.2.2 j h1.1
    show ((zE (kRmB i b z) (sL i 0) j).1 && !(zE (kRmB i b z) (sL i 0) j).2.1) = true
    rw [h2.1, h2.2, h1.2]
    rfl)
  have h1 : cnt (fun j => fLive (zE z (sL i 1) j)) (zN z (sL i 1)) ≤ cnt (fun j => fLive (zE (kRmB i b z) (sL i 1) j)) (zN z (sL i 1)) + 1 := cnt_m1 (a := b) (fun j _ hne h => by
    show fLive (zE (kRmB i b z) (sL i 1) j) = true
    rw [K.1 j hne]
    exact h)
  unfold tot
  rw [kRmB_N]
  omega
/-- an author's going, piece by piece -/
theorem rm0_E {i a : Nat} {z : cZ} (hi : i < 3) : (∀ c, zE (kRm0 i a z) (sL i 0) c = if c = a then fStrike (zE z (sL i 0) a) else zE z (sL i 0) c) ∧ (∀ c, c < zN z 1 → zE (kRm0 i a z) (sL i 1) c = ldV (nI a) (zR z 1 c) (zE z (sL i 1) c)) ∧ ∀ k c, k < 2 → zR (kRm0 i a z) k c = zR z k c := by
  unfold kRm0
  have u := zU_E (z := z) (i := i) (k := 0) (j := a) (v := fStrike (zE z (sL i 0) a)) (by decide)
  have e0 : kSt i 0 a z = sE z (sL i 0) a (fStrike (zE z (sL i 0) a)) := rfl
  rw [e0]
  generalize sE z (sL i 0) a (fStrike (zE z (sL i 0) a)) = z1 at u ⊢
  have L := lds_L hi (k := 1) (by decide) (nI a) z1 (zN z 1)
  have R1 : ∀ k c, k < 2 → zR z1 k c = zR z k c := fun k c hk => by
    rw [u.2.1 k c hk]
    split
    · rename_i q
      rw [q.1, q.2]
    · rfl
  refine ⟨fun c => ?_, fun c hc => ?_, fun k c hk => by rw [L.1 k c hk, R1 k c hk]⟩
  · rw [L.2 i 0 c hi (by decide), if_neg (fun q => absurd q.2.1 (by decide)), u.2.2 i 0 c hi (by decide)]
    by_cases e : c = a
    · rw [if_pos e, if_pos ⟨rfl, rfl, e⟩]
    · rw [if_neg e, if_neg (fun q => e q.2.2)]
  · rw [L.2 i 1 c hi (by decide), if_pos ⟨rfl, rfl, hc⟩, R1 1 c (by decide), u.2.2 i 1 c hi (by decide), if_neg (fun q => absurd q.2.1 (by decide))]
/-- how many books go with it -/
def rmC (i a : Nat) (z : cZ) : Nat := cnt (fun j9 => fRefs (zE (itr (kRb i (nI a)) j9 (kRm0 i a z)) (sL i 1) j9) (nI a)) (zN z (sL i 1))
theorem rmC_e {i a : Nat} {z : cZ} (hq : cEq z) (hi : i < 3) : rmC i a z = cnt (fun c => fRefs (ldV (nI a) (zR z 1 c) (zE z (sL i 1) c)) (nI a)) (zN z (sL i 1)) := by
  unfold rmC
  refine cnt_congr (fun c hc => ?_)
  rw [hq i 1 hi (by decide)] at hc
  show fRefs (zE (itr (kRb i (nI a)) c (kRm0 i a z)) (sL i 1) c) (nI a) = _
  rw [(rbs_K (i := i) (t := nI a) (z := kRm0 i a z) hi c).1 c (Nat.le_refl c), (rm0_E hi).2.1 c hc]
theorem ldV_2 {t : Int32} {r : vR} {e : vE} : ldV t r (ldV t r e) = ldV t r e := by
  by_cases h : (r.1 && decide (r.2.2.1 = t) && !e.1) = true
  · have h1 : ldV t r e = fLoad e r := by
      unfold ldV
      rw [if_pos h]
    exact ldV_m (by rw [h1]; rfl)
  · have h1 : ldV t r e = e := by
      unfold ldV
      rw [if_neg h]
    rw [h1, h1]
/-- books says how many -/
theorem books_rm {i a : Nat} {z : cZ} (hq : cEq z) (hi : i < 3) : cnt (fun j => fRefs (zE (itr (kLd i 1 (nI a)) (zN z 1) z) (sL i 1) j) (nI a)) (zN z (sL i 1)) = rmC i a (itr (kLd i 1 (nI a)) (zN z 1) z) := by
  have L := lds_L hi (k := 1) (by decide) (nI a) z (zN z 1)
  have N : zN (itr (kLd i 1 (nI a)) (zN z 1) z) = zN z := itr_N (kLd_N i 1 (nI a)) _ _
  rw [rmC_e (cEq_N N hq) hi, N]
  refine cnt_congr (fun c hc => ?_)
  rw [hq i 1 hi (by decide)] at hc
  rw [L.2 i 1 c hi (by decide), if_pos ⟨rfl, rfl, hc⟩, L.1 1 c (by decide), ldV_2]
theorem books_1 {i a c : Nat} {z : cZ} (hc : c < zN z 1) (hq : cEq z) (hi : i < 3) (hr : fRefs (zE z (sL i 1) c) (nI a) = true) : 1 ≤ cnt (fun j => fRefs (zE (itr (kLd i 1 (nI a)) (zN z 1) z) (sL i 1) j) (nI a)) (zN z (sL i 1)) := by
  have L := lds_L hi (k := 1) (by decide) (nI a) z (zN z 1)
  refine cnt_pos (a := c) ?_ (by rw [hq i 1 hi (by decide)]; exact hc)
  rw [L.2 i 1 c hi (by decide), if_pos ⟨rfl, rfl, hc⟩]
  have h : (fLive (zE z (sL i 1) c) && decide (eRf (zE z (sL i 1) c) = nI a)) = true := hr
  rw [Bool.and_eq_true] at h
  rw [ldV_m (fLive_1 h.1).1]
  exact hr
/-- loads only add -/
theorem lds_kn {i k : Nat} {t : Int32} {z : cZ} (hA : jA z) (hq : cEq z) (hi : i < 3) (hk : k < 2) {n : Nat} : tot fLive i z ≤ tot fLive i (itr (kLd i k t) n z) := by
  have L := lds_L hi hk t z n
  have N : zN (itr (kLd i k t) n z) = zN z := itr_N (kLd_N i k t) _ _
  refine tot_le (z := itr (kLd i k t) n z) (z1 := z) N.symm (fun b j hb _ h => ?_)
  rw [L.2 i b j hi hb]
  split
  · rename_i q
    rw [q.2.1] at h
    rw [ldV_m (fLive_1 h).1]
    exact h
  · exact h
theorem rmA_kn {i a : Nat} {z : cZ} (hq : cEq z) (hi : i < 3) (ha : a < zN z 0) : tot fLive i z ≤ tot fLive i (kRmA i a z) + (rmC i a z + 1) := by
  have E := rm0_E (i := i) (a := a) (z := z) hi
  have hC := rmC_e (a := a) hq hi
  have e9 : kRmA i a z = itr (kRb i (nI a)) (zN z 1) (kRm0 i a z) := by
    unfold kRmA
    rw [hq i 1 hi (by decide)]
  have N : zN (kRmA i a z) = zN z := kRmA_N i a z
  unfold tot
  rw [N, hC, e9]
  generalize kRm0 i a z = z2 at E ⊢
  have K := rbs_K (i := i) (t := nI a) (z := z2) hi (zN z 1)
  generalize itr (kRb i (nI a)) (zN z 1) z2 = z3 at K ⊢
  have h0 : cnt (fun j => fLive (zE z (sL i 0) j)) (zN z (sL i 0)) ≤ cnt (fun j => fLive (zE z3 (sL i 0) j)) (zN z (sL i 0)) + 1 := cnt_m1 (a := a) (fun j _ hne h => by
    have h1 := fLive_1 h
    have e2 : zE z2 (sL i 0) j = zE z (sL i 0) j := by rw [E.1 j, if_neg hne]
    have h2 := K.2.2.2.2 j (by rw [e2]; exact h1.1)
    show ((zE z3 (sL i 0) j).1 && !(zE z3 (sL i 0) j).2.1) = true
    rw [h2.1, h2.2, e2, h1.2]
    rfl)
  have h1 : cnt (fun j => fLive (zE z (sL i 1) j)) (zN z (sL i 1)) ≤ cnt (fun j => fLive (zE z3 (sL i 1) j)) (zN z (sL i 1)) + cnt (fun c => fRefs (ldV (nI a) (zR z 1 c) (zE z (sL i 1) c)) (nI a)) (zN z (sL i 1)) := cnt_or (fun j hj h => by
    rw [hq i 1 hi (by decide)] at hj
    have h1 : fLive (zE z (sL i 1) j) = true := h
    have e2 : zE z2 (sL i 1) j = zE z (sL i 1) j := by rw [E.2.1 j hj, ldV_m (fLive_1 h1).1]
    show fLive (zE z3 (sL i 1) j) = true ∨ fRefs (ldV (nI a) (zR z 1 j) (zE z (sL i 1) j)) (nI a) = true
    rw [← E.2.1 j hj, K.2.1 j hj]
    by_cases q : fRefs (zE z2 (sL i 1) j) (nI a) = true
    · exact Or.inr q
    · rw [if_neg q, e2]
      exact Or.inl h1)
  omega
/-- it isn't found any more -/
theorem fi_gone {i k j : Nat} {z : cZ} (hq : cEq z) (hn8 : ∀ u, u < 8 → zN z u ≤ 1024) (hi : i < 3) (hk : k < 2) (hj : j < zN z k) (h : ((zE z (sL i k) j).1 = true ∧ (zE z (sL i k) j).2.1 = true) ∨ ((zE z (sL i k) j).1 = false ∧ (zR z k j).1 = false)) : fLive (eV (kFi i k (nI j) z) i k (nI j)) = false ∧ kFi i k (nI j) z = z := by
  have hn := hn8 k (by omega)
  have e1 : eV z i k (nI j) = zE z (sL i k) j := eV_in (by rw [hq i k hi hk]; exact hn) (by rw [hq i k hi hk]; exact hj)
  have e2 : rV z k (nI j) = zR z k j := rV_in hn hj
  have e3 : kFi i k (nI j) z = z := by
    unfold kFi
    rw [e1, e2]
    rcases h with ⟨h1, h2⟩ | ⟨h1, h2⟩
    · rw [h1, if_neg (by simp)]
    · rw [h2, if_neg (by simp)]
  rw [e3, e1]
  refine ⟨?_, rfl⟩
  show ((zE z (sL i k) j).1 && !(zE z (sL i k) j).2.1) = false
  rcases h with ⟨h1, h2⟩ | ⟨h1, h2⟩
  · rw [h2]
    simp
  · rw [h1]
    rfl
/-- struck out: gone, or never written -/
theorem st_gone {i k j : Nat} {z : cZ} (hA : jA z) (hi : i < 3) (hk : k < 2) (hj : j < zN z k) (hl : fLive (zE z (sL i k) j) = true) : ((fStrike (zE z (sL i k) j)).1 = true ∧ (fStrike (zE z (sL i k) j)).2.1 = true) ∨ ((fStrike (zE z (sL i k) j)).1 = false ∧ (zR z k j).1 = false) := by
  have f := hA.1 i k j hi hk hj
  cases h3 : (zE z (sL i k) j).2.2.1
  · rw [fStrike_f _ h3]
    refine Or.inr ⟨rfl, ?_⟩
    exact (hA.2.2.2 i k j hi hk hj (by show ((zE z (sL i k) j).1 && !(zE z (sL i k) j).2.2.1) = true; rw [(fLive_1 hl).1, h3]; rfl)).1
  · rw [fStrike_3 _ h3]
    exact Or.inl ⟨f.1 h3, rfl⟩
theorem rmB_n {i b c : Nat} {z : cZ} (hi : i < 3) (h : (zR z 0 c).1 = false ∧ (zE z (sL i 0) c).1 = false) : (zR (kRmB i b z) 0 c).1 = false ∧ (zE (kRmB i b z) (sL i 0) c).1 = false := by
  have K := rmB_K (i := i) (b := b) (z := z) hi
  refine ⟨by rw [K.2.2.1 0 c (by decide)]; exact h.1, ?_⟩
  unfold kRmB
  have u := zU_E (z := z) (i := i) (k := 1) (j := b) (v := fStrike (zE z (sL i 1) b)) (by decide)
  have e0 : kSt i 1 b z = sE z (sL i 1) b (fStrike (zE z (sL i 1) b)) := rfl
  rw [e0]
  generalize sE z (sL i 1) b (fStrike (zE z (sL i 1) b)) = z1 at u ⊢
  have L := lds_L hi (k := 0) (by decide) (nI b) z1 (zN z 0)
  generalize itr (kLd i 0 (nI b)) (zN z 0) z1 = z2 at L ⊢
  have C := cls_L hi (nI b) z2 (zN z (sL i 0))
  generalize itr (kCl i (nI b)) (zN z (sL i 0)) z2 = z3 at C ⊢
  have e1 : zE z1 (sL i 0) c = zE z (sL i 0) c := by rw [u.2.2 i 0 c hi (by decide), if_neg (fun q => absurd q.2.1 (by decide))]
  have r1 : zR z1 0 c = zR z 0 c := by rw [u.2.1 0 c (by decide), if_neg (fun q => absurd q.1 (by decide))]
  have e2 : zE z2 (sL i 0) c = zE z (sL i 0) c := by
    rw [L.2 i 0 c hi (by decide)]
    split
    · unfold ldV
      rw [r1, h.1, if_neg (by simp), e1]
    · exact e1
  rw [C.2 i 0 c hi (by decide)]
  split
  · rw [clV_1, e2]
    exact h.2
  · rw [e2]
    exact h.2
theorem rmB_gone {i b : Nat} {z : cZ} (hA : jA z) (hi : i < 3) (hb : b < zN z 1) (hl : fLive (zE z (sL i 1) b) = true) : ((zE (kRmB i b z) (sL i 1) b).1 = true ∧ (zE (kRmB i b z) (sL i 1) b).2.1 = true) ∨ ((zE (kRmB i b z) (sL i 1) b).1 = false ∧ (zR (kRmB i b z) 1 b).1 = false) := by
  have K := rmB_K (i := i) (b := b) (z := z) hi
  rw [K.2.1, K.2.2.1 1 b (by decide)]
  exact st_gone hA hi (by decide) hb hl
theorem rmA_gone {i a : Nat} {z : cZ} (hA : jA z) (hi : i < 3) (ha : a < zN z 0) (hl : fLive (zE z (sL i 0) a) = true) : ((zE (kRmA i a z) (sL i 0) a).1 = true ∧ (zE (kRmA i a z) (sL i 0) a).2.1 = true) ∨ ((zE (kRmA i a z) (sL i 0) a).1 = false ∧ (zR (kRmA i a z) 0 a).1 = false) := by
  have E := rm0_E (i := i) (a := a) (z := z) hi
  have ea : zE (kRm0 i a z) (sL i 0) a = fStrike (zE z (sL i 0) a) := by rw [E.1 a, if_pos rfl]
  have s := st_gone hA hi (by decide) ha hl
  rw [← ea, ← E.2.2 0 a (by decide)] at s
  unfold kRmA
  generalize kRm0 i a z = z2 at s ⊢
  rcases s with ⟨s1, s2⟩ | ⟨s1, s2⟩
  · have K := (rbs_K (i := i) (t := nI a) (z := z2) hi (zN z (sL i 1))).2.2.2.2 a s1
    exact Or.inl ⟨K.1, by rw [K.2]; exact s2⟩
  · have q : (zR (itr (kRb i (nI a)) (zN z (sL i 1)) z2) 0 a).1 = false ∧ (zE (itr (kRb i (nI a)) (zN z (sL i 1)) z2) (sL i 0) a).1 = false :=
      Q_it (Q := fun z => (zR z 0 a).1 = false ∧ (zE z (sL i 0) a).1 = false) (N0 := zN z2) (kRb_N i (nI a)) (fun j z4 _ _ h4 => by
        unfold kRb
        split
        · exact rmB_n hi h4
        · exact h4) rfl ⟨s2, s1⟩
    exact Or.inr ⟨q.2, q.1⟩
/-- behind a flush: as many are known, none is dirty -/
theorem fl_kn {i : Nat} {z : cZ} (hA : jA z) (hs : jS i z) (hq : cEq z) (hi : i < 3) : tot fLive i (kFl i z) = tot fLive i z := tot_eq (kFl_N i z) (fun k j hk hj => by
  rw [hq i k hi hk] at hj
  have h := fl_all hA hs hq hi hk hj
  show ((zE (kFl i z) (sL i k) j).1 && !(zE (kFl i z) (sL i k) j).2.1) = ((zE z (sL i k) j).1 && !(zE z (sL i k) j).2.1)
  rcases e_3 (zE z (sL i k) j) with g | ⟨g, g1⟩ | ⟨g, g1⟩
  · rw [(h.1 g).2.1, g]
    simp
  · rw [(h.2.1 g g1).2.2.2, g, g1]
  · rw [(h.2.2 g1).2])
/-- a session whose objects are their rows -/
def jE (i : Nat) (z : cZ) : Prop := ∀ k j, k < 2 → j < zN z k → (zE z (sL i k) j).2.1 = false ∧ (zE z (sL i k) j).2.2.1 = (zE z (sL i k) j).1 ∧ ((zE z (sL i k) j).1 = true → (zR z k j).1 = true ∧ zE z (sL i k) j = (true, false, true, (zR z k j).2.1, (zR z k j).2.2.1, (zR z k j).2))
theorem jE.fl {i : Nat} {z : cZ} (hA : jA z) (hs : jS i z) (hq : cEq z) (hi : i < 3) (hc : ∀ k j, k < 2 → j < zN z k → (zE z (sL i k) j).1 = false → (zE z (sL i k) j).2.2.1 = false) : jE i (kFl i z) := fun k j hk hj => by
  rw [kFl_N] at hj
  have h := fl_all hA hs hq hi hk hj
  have f := hA.1 i k j hi hk hj
  rcases e_3 (zE z (sL i k) j) with g | ⟨g, g1⟩ | ⟨g, g1⟩
  · have h1 := h.1 g
    rw [h1.2.1, h1.2.2.1, h1.2.2.2]
    exact ⟨rfl, rfl, fun q => ff q⟩
  · have h1 := h.2.1 g g1
    have e : zE (kFl i z) (sL i k) j = (true, false, true, (zR (kFl i z) k j).2.1, (zR (kFl i z) k j).2.2.1, (zR (kFl i z) k j).2) := by rw [h1.2.2.2, h1.2.1, h1.2.2.1]
    refine ⟨by rw [e], by rw [e], fun _ => ⟨h1.1, e⟩⟩
  · rw [(h.2.2 g1).2, g1, g, hc k j hk hj g1]
    exact ⟨rfl, rfl, fun q => ff q⟩
theorem jE.of {i : Nat} {z : cZ} (hA : jA z) (hs : jS i z) (hq : cEq z) (hi : i < 3) : jE i (kFl i z) := jE.fl hA hs hq hi (fun k j hk hj h1 => by
  cases q : (zE z (sL i k) j).2.2.1
  · rfl
  · rw [(hA.1 i k j hi hk hj).1 q] at h1
    exact absurd h1 (by decide))
theorem jE.cl {i : Nat} {z : cZ} (h : jE i z) {k j : Nat} (hk : k < 2) (hj : j < zN z k) : fNew (zE z (sL i k) j) = false ∧ fChg (zE z (sL i k) j) = false ∧ (zE z (sL i k) j).2.1 = false := by
  have h9 := h k j hk hj
  cases h1 : (zE z (sL i k) j).1
  · have h3 := h9.2.1
    rw [h1] at h3
    refine ⟨?_, ?_, h9.1⟩
    · show ((zE z (sL i k) j).1 && _) = false
      rw [h1]
      rfl
    · show ((zE z (sL i k) j).2.2.1 && _) = false
      rw [h3]
      rfl
  · have e := (h9.2.2 h1).2
    rw [e]
    refine ⟨rfl, ?_, rfl⟩
    show (true && (decide ((zR z k j).2.1 ≠ (zR z k j).2.1) || decide ((zR z k j).2.2.1 ≠ (zR z k j).2.2.1))) = false
    simp
theorem jE.dy {i : Nat} {z : cZ} (h : jE i z) (hq : cEq z) (hi : i < 3) : tot fDy i z = 0 := tot_0 (fun k j hk hj => by
  rw [hq i k hi hk] at hj
  show (_ && fChg (zE z (sL i k) j)) = false
  rw [(h.cl hk hj).2.1, Bool.and_false])
theorem jE.id {i : Nat} {z : cZ} (h : jE i z) (hq : cEq z) (hi : i < 3) : kFl i z = z := fl_id hq hi (fun _ _ hk hj => h.cl hk hj)
theorem jE.cr {i : Nat} {z : cZ} (hq : cEq z) (hi : i < 3) : jE i (kCr i z) := fun k j hk hj => by
  rw [kCr_N] at hj
  rw [(kCr_K hq hi).2.1 k j hk hj]
  exact ⟨rfl, rfl, fun q => ff q⟩
/-- a find leaves it so, and says whether there is a row -/
theorem jE.fi {i : Nat} {z : cZ} (h : jE i z) (hq : cEq z) (hn8 : ∀ u, u < 8 → zN z u ≤ 1024) (hi : i < 3) {k : Nat} (hk : k < 2) (ky : Int32) : jE i (kFi i k ky z) ∧ ∀ b c, b < 2 → zR (kFi i k ky z) b c = zR z b c := by
  rcases kFi_c hq hn8 hi hk ky with e | ⟨j, hj, -, h0, ht, e⟩
  · rw [e]
    exact ⟨h, fun _ _ _ => rfl⟩
  · rw [e]
    have u := zU_E (z := z) (i := i) (k := k) (j := j) (v := fLoad (zE z (sL i k) j) (zR z k j)) hk
    have hR : ∀ b c, b < 2 → zR (sE z (sL i k) j (fLoad (zE z (sL i k) j) (zR z k j))) b c = zR z b c := fun _ _ _ => rfl
    refine ⟨fun b c hb hc => ?_, hR⟩
    rw [u.1] at hc
    rw [u.2.2 i b c hi hb, hR b c hb]
    by_cases q : i = i ∧ b = k ∧ c = j
    · rw [if_pos q, q.2.1, q.2.2, fLoad_e]
      have h9 := (h k j hk hj).1
      rw [h9]
      exact ⟨rfl, rfl, fun _ => ⟨ht, rfl⟩⟩
    · rw [if_neg q]
      exact h b c hb hc
theorem jE.an {i : Nat} {z : cZ} (h : jE i z) (hq : cEq z) (hn8 : ∀ u, u < 8 → zN z u ≤ 1024) (hi : i < 3) {k j : Nat} (hk : k < 2) (hj : j < zN z k) : fLive (eV (kFi i k (nI j) z) i k (nI j)) = (zR z k j).1 ∧ ((zR z k j).1 = true → zE (kFi i k (nI j) z) (sL i k) j = (true, false, true, (zR z k j).2.1, (zR z k j).2.2.1, (zR z k j).2)) := by
  have hn := hn8 k (by omega)
  have F := h.fi hq hn8 hi hk (nI j)
  have N := kFi_N i k (nI j) z
  have hq2 := cEq_N N hq
  have e1 : eV (kFi i k (nI j) z) i k (nI j) = zE (kFi i k (nI j) z) (sL i k) j := eV_in (by rw [hq2 i k hi hk, N]; exact hn) (by rw [hq2 i k hi hk, N]; exact hj)
  have e9 : (zE (kFi i k (nI j) z) (sL i k) j).1 = (zR z k j).1 := by
    unfold kFi
    rw [eV_in (by rw [hq i k hi hk]; exact hn) (by rw [hq i k hi hk]; exact hj), rV_in hn hj, nI_clamp (by omega)]
    have h9 := h k j hk hj
    cases h1 : (zE z (sL i k) j).1
    · cases ht : (zR z k j).1
      · rw [if_neg (by decide)]
        exact h1
      · rw [if_pos (by decide), (zU_E (z := z) (i := i) (k := k) (j := j) (v := fLoad (zE z (sL i k) j) (zR z k j)) hk).e hi hk]
        rfl
    · rw [if_neg (by simp), h1, (h9.2.2 h1).1]
  have h8 := F.1 k j hk (by rw [N]; exact hj)
  rw [e1]
  refine ⟨?_, fun ht => ?_⟩
  · show ((zE (kFi i k (nI j) z) (sL i k) j).1 && !(zE (kFi i k (nI j) z) (sL i k) j).2.1) = _
    rw [h8.1, e9]
    simp
  · rw [← F.2 k j hk]
    exact (h8.2.2 (e9.trans ht)).2
/-- a flush writes, or does nothing -/
theorem itr_0 {F : Nat → cZ → cZ} (hF : ∀ j z, F j z = z ∨ zW (F j z) = zW z + 1) {z : cZ} : ∀ {n : Nat}, zW z ≤ zW (itr F n z) ∧ (zW (itr F n z) = zW z → itr F n z = z) := by
  intro n
  induction n with
  | zero => exact ⟨Nat.le_refl _, fun _ => rfl⟩
  | succ n ih =>
    show zW z ≤ zW (F n (itr F n z)) ∧ (zW (F n (itr F n z)) = zW z → F n (itr F n z) = z)
    rcases hF n (itr F n z) with e | e
    · rw [e]
      exact ih
    · rw [e]
      exact ⟨by omega, fun q => by omega⟩
theorem kIa_0 (i j : Nat) (z : cZ) : kIa i j z = z ∨ zW (kIa i j z) = zW z + 1 := by
  unfold kIa
  split
  · exact Or.inr rfl
  · exact Or.inl rfl
theorem kIb_0 (i j : Nat) (z : cZ) : kIb i j z = z ∨ zW (kIb i j z) = zW z + 1 := by
  unfold kIb
  split
  · exact Or.inr rfl
  · exact Or.inl rfl
theorem kUp_0 (i k j : Nat) (z : cZ) : kUp i k j z = z ∨ zW (kUp i k j z) = zW z + 1 := by
  unfold kUp
  split
  · exact Or.inr rfl
  · exact Or.inl rfl
theorem kDe_0 (i k j : Nat) (z : cZ) : kDe i k j z = z ∨ zW (kDe i k j z) = zW z + 1 := by
  unfold kDe
  split
  · exact Or.inr rfl
  · exact Or.inl rfl
theorem fl_0 {i : Nat} {z : cZ} (h : zW (kFl i z) = zW z) : kFl i z = z := by
  unfold kFl at h ⊢
  have a1 := itr_0 (kIa_0 i) (z := z) (n := zN z (sL i 0))
  have e1 : itr (kIa i) (zN z (sL i 0)) z = kF1 i z := rfl
  rw [e1] at a1
  generalize kF1 i z = z1 at a1 h ⊢
  have a2 := itr_0 (kIb_0 i) (z := z1) (n := zN z1 (sL i 1))
  have e2 : itr (kIb i) (zN z1 (sL i 1)) z1 = kF2 i z1 := rfl
  rw [e2] at a2
  generalize kF2 i z1 = z2 at a2 h ⊢
  have a3 := itr_0 (kUp_0 i 0) (z := z2) (n := zN z2 (sL i 0))
  have e3 : itr (kUp i 0) (zN z2 (sL i 0)) z2 = kF3 i 0 z2 := rfl
  rw [e3] at a3
  generalize kF3 i 0 z2 = z3 at a3 h ⊢
  have a4 := itr_0 (kUp_0 i 1) (z := z3) (n := zN z3 (sL i 1))
  have e4 : itr (kUp i 1) (zN z3 (sL i 1)) z3 = kF3 i 1 z3 := rfl
  rw [e4] at a4
  generalize kF3 i 1 z3 = z4 at a4 h ⊢
  have a5 := itr_0 (kDe_0 i 1) (z := z4) (n := zN z4 (sL i 1))
  have e5 : itr (kDe i 1) (zN z4 (sL i 1)) z4 = kF4 i 1 z4 := rfl
  rw [e5] at a5
  generalize kF4 i 1 z4 = z5 at a5 h ⊢
  have a6 := itr_0 (kDe_0 i 0) (z := z5) (n := zN z5 (sL i 0))
  have e6 : itr (kDe i 0) (zN z5 (sL i 0)) z5 = kF4 i 0 z5 := rfl
  rw [e6] at a6
  rw [a6.2 (by omega), a5.2 (by omega), a4.2 (by omega), a3.2 (by omega), a2.2 (by omega), a1.2 (by omega)]
/-- what is changed is written -/
theorem itr_c {F : Nat → cZ → cZ} (hF : ∀ j z, zW z ≤ zW (F j z)) {p : Nat → Bool} {z : cZ} : ∀ {n : Nat}, (∀ j, j < n → p j = true → zW (F j (itr F j z)) = zW (itr F j z) + 1) → zW z + cnt p n ≤ zW (itr F n z) := by
  intro n
  induction n with
  | zero => intro _; exact Nat.le_refl _
  | succ n ih =>
    intro h
    have h1 := ih (fun j hj => h j (by omega))
    have h2 := hF n (itr F n z)
    show _ ≤ zW (F n (itr F n z))
    rw [cnt_s]
    by_cases e : p n = true
    · rw [if_pos e, h n (by omega) e]
      omega
    · rw [if_neg e]
      omega
theorem up_c {i k : Nat} {z : cZ} (hi : i < 3) (hk : k < 2) : zW z + cnt (fun j => fChg (zE z (sL i k) j)) (zN z (sL i k)) ≤ zW (kF3 i k z) := by
  unfold kF3
  refine itr_c (fun j z2 => (kUp_0 i k j z2).elim (fun e => by rw [e]; exact Nat.le_refl _) (fun e => by omega)) (fun j hj h => ?_)
  have l := itr_loc (F := kUp i k) (i := i) (k := k) (fr := fun _ r e => upR r e) (fe := fun _ r e => upV r e) (P := fun _ => True) hi hk (fun j z2 _ => kUp_L hk) (fun _ _ _ => trivial) (z := z) trivial j
  have e : zE (itr (kUp i k) j z) (sL i k) j = zE z (sL i k) j := by rw [l.2.2 i k j hi hk, if_neg (fun q => absurd q.2.2 (Nat.lt_irrefl j))]
  generalize itr (kUp i k) j z = z2 at e ⊢
  unfold kUp
  rw [e, if_pos h]
  rfl
theorem fl_dn {i : Nat} {z : cZ} (hA : jA z) (hq : cEq z) (hi : i < 3) : zW z + tot fDy i z ≤ zW (kFl i z) := by
  have c0 := hq i 0 hi (by decide)
  have c1 := hq i 1 hi (by decide)
  have l1 := itr_loc (F := kIa i) (i := i) (k := 0) (fr := fun _ r e => inR (fav (fun ky => (rV z 1 ky).1) (eRf e)) r e) (fe := fun _ _ e => inV (fav (fun ky => (rV z 1 ky).1) (eRf e)) e) (P := fun z2 => ∀ ky, (rV z2 1 ky).1 = (rV z 1 ky).1) hi (by decide) (fun j z2 h2 => kIa_L h2) (fun j z2 h2 ky => by
    have u := kIa_L (i := i) (j := j) (z := z2) (V := fun ky => (rV z 1 ky).1) h2
    rw [← h2 ky]
    unfold rV
    rw [u.1]
    split
    · rw [u.2.1 1 _ (by decide), if_neg (fun q => absurd q.1 (by decide))]
    · rfl) (z := z) (fun _ => rfl) (zN z (sL i 0))
  have w1 := (itr_0 (kIa_0 i) (z := z) (n := zN z (sL i 0))).1
  have N1 : zN (kF1 i z) = zN z := itr_N (kIa_st i).N _ _
  have e1 : itr (kIa i) (zN z (sL i 0)) z = kF1 i z := rfl
  rw [e1] at l1 w1
  have l2 := itr_loc (F := kIb i) (i := i) (k := 1) (fr := fun _ r e => inR (eRf e) r e) (fe := fun _ _ e => inV (eRf e) e) (P := fun _ => True) hi (by decide) (fun j z2 _ => kIb_L) (fun _ _ _ => trivial) (z := kF1 i z) trivial (zN (kF1 i z) (sL i 1))
  have w2 := (itr_0 (kIb_0 i) (z := kF1 i z) (n := zN (kF1 i z) (sL i 1))).1
  have N2 : zN (kF2 i (kF1 i z)) = zN z := (itr_N (kIb_st i).N _ _).trans N1
  have e2 : itr (kIb i) (zN (kF1 i z) (sL i 1)) (kF1 i z) = kF2 i (kF1 i z) := rfl
  rw [e2] at l2 w2
  have hV : ∀ rf9 (e : vE), fDy e = true → inV rf9 e = e := fun rf9 e h => by
    have h9 : (fLive e && fChg e) = true := h
    rw [Bool.and_eq_true] at h9
    unfold inV
    rw [show fNew e = false from by show (e.1 && !e.2.2.1) = false; rw [fChg_3 h9.2]; simp, if_neg (by decide)]
  have hD : ∀ (e : vE), fDy e = true → fChg e = true := fun e h => by
    have h9 : (fLive e && fChg e) = true := h
    rw [Bool.and_eq_true] at h9
    exact h9.2
  -- changed ones stand there, when they are written
  have s0 : ∀ j, fDy (zE z (sL i 0) j) = true → zE (kF2 i (kF1 i z)) (sL i 0) j = zE z (sL i 0) j := fun j h => by
    rw [l2.2.2 i 0 j hi (by decide), if_neg (fun q => absurd q.2.1 (by decide)), l1.2.2 i 0 j hi (by decide)]
    split
    · exact hV _ _ h
    · rfl
  have s1 : ∀ j, fDy (zE z (sL i 1) j) = true → zE (kF2 i (kF1 i z)) (sL i 1) j = zE z (sL i 1) j := fun j h => by
    have e : zE (kF1 i z) (sL i 1) j = zE z (sL i 1) j := by rw [l1.2.2 i 1 j hi (by decide), if_neg (fun q => absurd q.2.1 (by decide))]
    rw [l2.2.2 i 1 j hi (by decide)]
    split
    · rw [e]
      exact hV _ _ h
    · exact e
  have u3 := up_c (i := i) (k := 0) (z := kF2 i (kF1 i z)) hi (by decide)
  have l3 := itr_loc (F := kUp i 0) (i := i) (k := 0) (fr := fun _ r e => upR r e) (fe := fun _ r e => upV r e) (P := fun _ => True) hi (by decide) (fun j z2 _ => kUp_L (by decide)) (fun _ _ _ => trivial) (z := kF2 i (kF1 i z)) trivial (zN (kF2 i (kF1 i z)) (sL i 0))
  have e3 : itr (kUp i 0) (zN (kF2 i (kF1 i z)) (sL i 0)) (kF2 i (kF1 i z)) = kF3 i 0 (kF2 i (kF1 i z)) := rfl
  rw [e3] at l3
  have N3 : zN (kF3 i 0 (kF2 i (kF1 i z))) = zN z := (itr_N (kUp_st i 0).N _ _).trans N2
  have u4 := up_c (i := i) (k := 1) (z := kF3 i 0 (kF2 i (kF1 i z))) hi (by decide)
  rw [N2] at u3
  rw [N3] at u4
  have d0 : cnt (fun j => fDy (zE z (sL i 0) j)) (zN z (sL i 0)) ≤ cnt (fun j => fChg (zE (kF2 i (kF1 i z)) (sL i 0) j)) (zN z (sL i 0)) := cnt_mono (fun j _ h => by
    show fChg (zE (kF2 i (kF1 i z)) (sL i 0) j) = true
    rw [s0 j h]
    exact hD _ h)
  have d1 : cnt (fun j => fDy (zE z (sL i 1) j)) (zN z (sL i 1)) ≤ cnt (fun j => fChg (zE (kF3 i 0 (kF2 i (kF1 i z))) (sL i 1) j)) (zN z (sL i 1)) := cnt_mono (fun j _ h => by
    show fChg (zE (kF3 i 0 (kF2 i (kF1 i z))) (sL i 1) j) = true
    rw [l3.2.2 i 1 j hi (by decide), if_neg (fun q => absurd q.2.1 (by decide)), s1 j h]
    exact hD _ h)
  unfold kFl tot
  generalize kF3 i 0 (kF2 i (kF1 i z)) = z3 at u3 u4 d1 ⊢
  generalize kF2 i (kF1 i z) = z2 at w2 u3 d0
  generalize kF1 i z = z1 at w1 w2
  have w5 := (itr_0 (kDe_0 i 1) (z := kF3 i 1 z3) (n := zN (kF3 i 1 z3) (sL i 1))).1
  have e5 : itr (kDe i 1) (zN (kF3 i 1 z3) (sL i 1)) (kF3 i 1 z3) = kF4 i 1 (kF3 i 1 z3) := rfl
  rw [e5] at w5
  generalize kF4 i 1 (kF3 i 1 z3) = z5 at w5 ⊢
  have w6 := (itr_0 (kDe_0 i 0) (z := z5) (n := zN z5 (sL i 0))).1
  have e6 : itr (kDe i 0) (zN z5 (sL i 0)) z5 = kF4 i 0 z5 := rfl
  rw [e6] at w6
  omega
