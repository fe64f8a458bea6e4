/-! P23, PURE: names and references are set, objects go, everything is forgotten -/
theorem jI.mono {X X1 : Nat → Nat → Prop} {i : Nat} {z : cZ} (h : jI X i z) (hx : ∀ k q, X k q → X1 k q) : jI X1 i z := ⟨h.1, fun k j q hk hj hq hX => h.2.1 k j q hk hj hq (fun r => hX (hx _ _ r)), fun k j q hk hj hq hX => h.2.2 k j q hk hj hq (fun r => hX (hx _ _ r))⟩
theorem jA.set {z : cZ} (h : jA z) {i k j : Nat} (hi : i < 3) (hk : k < 2) (hj : j < zN z k) (nm9 rf9 : Int32) (hr : (zE z (sL i k) j).1 = true → okK z k rf9 ∧ nOK nm9 = true) : jA (sE z (sL i k) j ((zE z (sL i k) j).1, (zE z (sL i k) j).2.1, (zE z (sL i k) j).2.2.1, nm9, rf9, (zE z (sL i k) j).2.2.2.2.2)) :=
  h.e hi hk hj (zU_E hk) (h.1 i k j hi hk hj).1 (h.1 i k j hi hk hj).2 (fun q => hr q) (fun q => q) (fun q => Or.inl q)
theorem jI.set {X : Nat → Nat → Prop} {z : cZ} {i k j : Nat} (h : jI X i z) (hi : i < 3) (hk : k < 2) (hj : j < zN z k) (nm9 rf9 : Int32) (hr : ∀ q, q < zN z (1 - k) → ¬ X (1 - k) q → fLive (zE z (sL i k) j) = true → rf9 = nI q → tB i z (1 - k) q = true) : jI X i (sE z (sL i k) j ((zE z (sL i k) j).1, (zE z (sL i k) j).2.1, (zE z (sL i k) j).2.2.1, nm9, rf9, (zE z (sL i k) j).2.2.2.2.2)) :=
  h.e hi hk hj (zU_E hk) (h.1 k j hk hj) (fun hl q hq hX e => hr q hq hX hl e) (fun _ q => q) (fun _ q => q) (fun q _ => q)
theorem fStrike_3 (v : vE) (h : v.2.2.1 = true) : fStrike v = (v.1, true, v.2.2.1, v.2.2.2) := by
  obtain ⟨b1, b2, b3, nm, rf, sn, sr, sv⟩ := v
  exact if_pos h
theorem fStrike_f (v : vE) (h : v.2.2.1 = false) : fStrike v = (false, false, false, v.2.2.2) := by
  obtain ⟨b1, b2, b3, nm, rf, sn, sr, sv⟩ := v
  exact if_neg (by rw [show b3 = false from h]; decide)
theorem jA.st {z : cZ} (h : jA z) {i k j : Nat} (hi : i < 3) (hk : k < 2) (hj : j < zN z k) : jA (kSt i k j z) := by
  have hf := h.1 i k j hi hk hj
  have hv := h.2.1.1 i k j hi hk hj
  cases h3 : (zE z (sL i k) j).2.2.1
  · refine h.e (e := fStrike (zE z (sL i k) j)) hi hk hj (zU_E hk) ?_ ?_ ?_ ?_ ?_ <;> rw [fStrike_f _ h3]
    · exact fun q => ff q
    · exact fun q => ff q
    · exact fun q => ff q
    · exact fun q => ff q
    · exact fun q => ff q
  · refine h.e (e := fStrike (zE z (sL i k) j)) hi hk hj (zU_E hk) ?_ ?_ ?_ ?_ ?_ <;> rw [fStrike_3 _ h3]
    · exact fun _ => hf.1 h3
    · exact fun _ => h3
    · exact fun q => hv q
    · intro q
      have q9 : ((zE z (sL i k) j).1 && !(zE z (sL i k) j).2.2.1) = true := q
      exact q9
    · exact fun q => Or.inl q
def xA (X : Nat → Nat → Prop) (k j : Nat) : Nat → Nat → Prop := fun b c => X b c ∨ (b = k ∧ c = j)
theorem jI.st {X : Nat → Nat → Prop} {z : cZ} (hA : jA z) {i k j : Nat} (h : jI X i z) (hi : i < 3) (hk : k < 2) (hj : j < zN z k) : jI (xA X k j) i (kSt i k j z) := by
  have h := h.mono (X1 := xA X k j) (fun _ _ q => Or.inl q)
  have hf := hA.1 i k j hi hk hj
  have hn := hA.2.2.2 i k j hi hk hj
  have hx : ∀ {P : Prop}, ¬ xA X k j k j → P := fun {P} q => absurd (Or.inr ⟨rfl, rfl⟩) q
  cases h3 : (zE z (sL i k) j).2.2.1
  · refine h.e (e := fStrike (zE z (sL i k) j)) hi hk hj (zU_E hk) ?_ ?_ (fun q => hx q) (fun q => hx q) ?_ <;> rw [fStrike_f _ h3]
    · exact fun q => ff q
    · exact fun q => ff q
    · intro q1 q2
      have h9 := (hn (by show ((zE z (sL i k) j).1 && !(zE z (sL i k) j).2.2.1) = true; rw [q1, h3]; rfl)).1
      rw [q2] at h9
      exact absurd h9 (by decide)
  · refine h.e (e := fStrike (zE z (sL i k) j)) hi hk hj (zU_E hk) ?_ ?_ (fun q => hx q) (fun q => hx q) ?_ <;> rw [fStrike_3 _ h3]
    · exact fun _ => h.1 k j hk hj h3
    · intro q
      have q9 : ((zE z (sL i k) j).1 && !true) = true := q
      simp at q9
    · exact fun q _ => q
/-- loops of loads and of clears, key by key -/
def ldV (t : Int32) (r : vR) (e : vE) : vE := if (r.1 && decide (r.2.2.1 = t) && !e.1) = true then fLoad e r else e
def clV (t : Int32) (e : vE) : vE := if fRefs e t = true then fClr e else e
theorem kLd_L {i k j : Nat} {t : Int32} {z : cZ} (hk : k < 2) : zU z (kLd i k t j z) i k j (zR z k j) (ldV t (zR z k j) (zE z (sL i k) j)) := by
  unfold kLd ldV
  split
  · exact zU_E hk
  · exact zU.rf
theorem kCl_L {i j : Nat} {t : Int32} {z : cZ} : zU z (kCl i t j z) i 0 j (zR z 0 j) (clV t (zE z (sL i 0) j)) := by
  unfold kCl clV
  split
  · exact zU_E (by decide)
  · exact zU.rf
theorem lds_L {i k : Nat} (hi : i < 3) (hk : k < 2) (t : Int32) (z : cZ) (n : Nat) : (∀ b c, b < 2 → zR (itr (kLd i k t) n z) b c = zR z b c) ∧ (∀ a b c, a < 3 → b < 2 → zE (itr (kLd i k t) n z) (sL a b) c = if a = i ∧ b = k ∧ c < n then ldV t (zR z k c) (zE z (sL i k) c) else zE z (sL a b) c) := by
  have l := itr_loc (F := kLd i k t) (i := i) (k := k) (fr := fun _ r _ => r) (fe := fun _ r e => ldV t r e) (P := fun _ => True) hi hk (fun j z2 _ => kLd_L hk) (fun _ _ _ => trivial) (z := z) trivial n
  refine ⟨fun b c hb => ?_, l.2.2⟩
  rw [l.2.1 b c hb]
  split
  · rename_i q
    rw [q.1]
  · rfl
theorem cls_L {i : Nat} (hi : i < 3) (t : Int32) (z : cZ) (n : Nat) : (∀ b c, b < 2 → zR (itr (kCl i t) n z) b c = zR z b c) ∧ (∀ a b c, a < 3 → b < 2 → zE (itr (kCl i t) n z) (sL a b) c = if a = i ∧ b = 0 ∧ c < n then clV t (zE z (sL i 0) c) else zE z (sL a b) c) := by
  have l := itr_loc (F := kCl i t) (i := i) (k := 0) (fr := fun _ r _ => r) (fe := fun _ _ e => clV t e) (P := fun _ => True) hi (by decide) (fun j z2 _ => kCl_L) (fun _ _ _ => trivial) (z := z) trivial n
  refine ⟨fun b c hb => ?_, l.2.2⟩
  rw [l.2.1 b c hb]
  split
  · rename_i q
    rw [q.1]
  · rfl
theorem ldV_1 {t : Int32} {r : vR} {e : vE} (h1 : r.1 = true) (h2 : r.2.2.1 = t) : (ldV t r e).1 = true := by
  unfold ldV
  rw [h1, decide_eq_true h2, Bool.true_and, Bool.true_and]
  cases h : e.1
  · rw [Bool.not_false, if_pos rfl]
    rfl
  · rw [Bool.not_true, if_neg (by decide)]
    exact h
theorem ldV_m {t : Int32} {r : vR} {e : vE} (h : e.1 = true) : ldV t r e = e := by
  unfold ldV
  rw [h, Bool.not_true, Bool.and_false, if_neg (by decide)]
theorem clV_1 {t : Int32} {e : vE} : (clV t e).1 = e.1 := by
  unfold clV
  split <;> rfl
theorem clV_2 {t : Int32} {e : vE} : (clV t e).2.1 = e.2.1 := by
  unfold clV
  split <;> rfl
theorem clV_3 {t : Int32} {e : vE} : (clV t e).2.2.1 = e.2.2.1 := by
  unfold clV
  split <;> rfl
theorem clV_r {t : Int32} {e : vE} (ht : t ≠ -1) (hl : fLive (clV t e) = true) : eRf (clV t e) ≠ t := by
  unfold clV at hl ⊢
  split
  · intro q
    exact ht q.symm
  · rename_i h
    rw [if_neg h] at hl
    intro q
    exact h (by show (fLive e && decide (eRf e = t)) = true; rw [hl, decide_eq_true q]; rfl)
theorem jA.lds {z : cZ} (h : jA z) {i k : Nat} (hi : i < 3) (hk : k < 2) (t : Int32) {n : Nat} (hn : n ≤ zN z k) : jA (itr (kLd i k t) n z) :=
  Q_it (Q := jA) (N0 := zN z) (kLd_N i k t) (fun j z2 hj hz2 h2 => by
    unfold kLd
    split
    · rename_i q
      rw [Bool.and_eq_true, Bool.and_eq_true, Bool.not_eq_true'] at q
      exact h2.ld hi hk (by rw [hz2]; omega) q.2 q.1.1
    · exact h2) rfl h
theorem jI.lds {X : Nat → Nat → Prop} {z : cZ} (hA : jA z) {i k : Nat} (h : jI X i z) (hi : i < 3) (hk : k < 2) (t : Int32) {n : Nat} (hn : n ≤ zN z k) : jI X i (itr (kLd i k t) n z) :=
  (Q_it (Q := fun z => jA z ∧ jI X i z) (N0 := zN z) (kLd_N i k t) (fun j z2 hj hz2 h2 => by
    unfold kLd
    split
    · rename_i q
      rw [Bool.and_eq_true, Bool.and_eq_true, Bool.not_eq_true'] at q
      exact ⟨h2.1.ld hi hk (by rw [hz2]; omega) q.2 q.1.1, jI.ld h2.1 h2.2 hi hk (by rw [hz2]; omega) q.2 q.1.1⟩
    · exact h2) rfl ⟨hA, h⟩).2
theorem fClr_e (v : vE) : fClr v = (v.1, v.2.1, v.2.2.1, eNm v, -1, v.2.2.2.2.2) := rfl
theorem jA.cl {z : cZ} (h : jA z) {i j : Nat} (hi : i < 3) (hj : j < zN z 0) (t : Int32) : jA (kCl i t j z) := by
  unfold kCl
  split
  · exact h.set hi (by decide) hj _ _ (fun q => ⟨Or.inl ⟨rfl, rfl⟩, (h.2.1.1 i 0 j hi (by decide) hj q).2⟩)
  · exact h
theorem jI.cl {X : Nat → Nat → Prop} {z : cZ} {i j : Nat} (h : jI X i z) (hi : i < 3) (hj : j < zN z 0) (hn : ∀ u, u < 8 → zN z u ≤ 1024) (t : Int32) : jI X i (kCl i t j z) := by
  unfold kCl
  split
  · refine h.set hi (by decide) hj _ _ (fun q hq _ _ e => ?_)
    have := hn 1 (by decide)
    have hq : q < zN z 1 := hq
    exact absurd e.symm (nI_nm1 (by omega))
  · exact h
/-- a book goes, and with it what refers to it -/
theorem jA.rmB {z : cZ} (h : jA z) (hq : cEq z) {i b : Nat} (hi : i < 3) (hb : b < zN z 1) : jA (kRmB i b z) := by
  unfold kRmB
  rw [hq i 0 hi (by decide)]
  refine Q_it (Q := jA) (N0 := zN z) (kCl_N i (nI b)) (fun j z2 hj hz2 h2 => h2.cl hi (by rw [hz2]; exact hj) _) (itr_N (kLd_N i 0 (nI b)) _ _) ?_
  exact (h.st hi (by decide) hb).lds hi (by decide) (nI b) (Nat.le_refl _)
theorem jI.rmB {X : Nat → Nat → Prop} {z : cZ} (hA : jA z) (hq : cEq z) (hn : ∀ u, u < 8 → zN z u ≤ 1024) {i b : Nat} (h : jI X i z) (hi : i < 3) (hb : b < zN z 1) : jI X i (kRmB i b z) := by
  have hb9 := hn 1 (by decide)
  have a1 := hA.st hi (by decide) hb
  have i1 := jI.st hA h hi (by decide) hb
  have N1 : zN (kSt i 1 b z) = zN z := rfl
  have L := lds_L hi (k := 0) (by decide) (nI b) (kSt i 1 b z) (zN z 0)
  have a2 := a1.lds hi (by decide : 0 < 2) (nI b) (n := zN z 0) (Nat.le_refl _)
  have i2 := jI.lds a1 i1 hi (by decide : 0 < 2) (nI b) (n := zN z 0) (Nat.le_refl _)
  have N2 : zN (itr (kLd i 0 (nI b)) (zN z 0) (kSt i 1 b z)) = zN z := itr_N (kLd_N i 0 (nI b)) _ _
  have e9 : kRmB i b z = itr (kCl i (nI b)) (zN z 0) (itr (kLd i 0 (nI b)) (zN z 0) (kSt i 1 b z)) := by
    unfold kRmB
    rw [hq i 0 hi (by decide)]
  rw [e9]
  generalize itr (kLd i 0 (nI b)) (zN z 0) (kSt i 1 b z) = z2 at L a2 i2 N2 ⊢
  have C := cls_L hi (nI b) z2 (zN z 0)
  have i3 : jI (xA X 1 b) i (itr (kCl i (nI b)) (zN z 0) z2) := Q_it (Q := jI (xA X 1 b) i) (N0 := zN z) (kCl_N i (nI b)) (fun j z3 hj hz3 h3 => h3.cl hi (by rw [hz3]; exact hj) (by rw [hz3]; exact hn) _) N2 i2
  have N3 : zN (itr (kCl i (nI b)) (zN z 0) z2) = zN z := (itr_N (kCl_N i (nI b)) _ _).trans N2
  generalize itr (kCl i (nI b)) (zN z 0) z2 = z3 at C i3 N3 ⊢
  -- what refers to the book: known, and cleared where it is live
  have hE0 : ∀ c, c < zN z 0 → zE z3 (sL i 0) c = clV (nI b) (ldV (nI b) (zR z 0 c) (zE z (sL i 0) c)) := fun c hc => by
    rw [C.2 i 0 c hi (by decide), if_pos ⟨rfl, rfl, hc⟩, L.2 i 0 c hi (by decide), if_pos ⟨rfl, rfl, hc⟩]
    have e8 : zE (kSt i 1 b z) (sL i 0) c = zE z (sL i 0) c := by
      have u := zU_E (z := z) (i := i) (k := 1) (j := b) (v := fStrike (zE z (sL i 1) b)) (by decide)
      show zE (sE z (sL i 1) b (fStrike (zE z (sL i 1) b))) (sL i 0) c = _
      rw [u.2.2 i 0 c hi (by decide), if_neg (fun q => absurd q.2.1 (by decide))]
    rw [e8]
    rfl
  have hR3 : ∀ k c, k < 2 → zR z3 k c = zR z k c := fun k c hk => by
    rw [C.1 k c hk, L.1 k c hk]
    rfl
  refine ⟨i3.1, fun k j q hk hj hq9 hX hl hr => ?_, fun k j q hk hj hq9 hX hg ht hr => ?_⟩
  · by_cases r : 1 - k = 1 ∧ q = b
    · have hk0 : k = 0 := by omega
      subst hk0
      rw [N3] at hj
      rw [hE0 j hj] at hl hr
      rw [r.2] at hr
      exact absurd hr (clV_r (nI_nm1 (by omega)) hl)
    · exact i3.2.1 k j q hk hj hq9 (fun s => s.elim hX (fun s => r s)) hl hr
  · by_cases r : 1 - k = 1 ∧ q = b
    · have hk0 : k = 0 := by omega
      subst hk0
      rw [N3] at hj
      rw [hE0 j hj, clV_1]
      rw [hR3 0 j (by decide)] at ht hr
      exact ldV_1 ht (by rw [hr, r.2])
    · exact i3.2.2 k j q hk hj hq9 (fun s => s.elim hX (fun s => r s)) hg ht hr
