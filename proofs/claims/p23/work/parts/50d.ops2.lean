/-! P23, PURE: an author goes; everything is forgotten; an object is made -/
/-- a book's going leaves the other books as they are -/
theorem rmB_K {i b : Nat} {z : cZ} (hi : i < 3) : (∀ c, c ≠ b → zE (kRmB i b z) (sL i 1) c = zE z (sL i 1) c) ∧ zE (kRmB i b z) (sL i 1) b = fStrike (zE z (sL i 1) b) ∧ (∀ k c, k < 2 → zR (kRmB i b z) k c = zR z k c) ∧ (∀ a k c, a < 3 → k < 2 → a ≠ i → zE (kRmB i b z) (sL a k) c = zE z (sL a k) c) ∧ ∀ c, (zE z (sL i 0) c).1 = true → (zE (kRmB i b z) (sL i 0) c).1 = true ∧ (zE (kRmB i b z) (sL i 0) c).2.1 = (zE z (sL i 0) c).2.1 := by
  unfold kRmB
  have u := zU_E (z := z) (i := i) (k := 1) (j := b) (v := fStrike (zE z (sL i 1) b)) (by decide)
  have e0 : kSt i 1 b z = sE z (sL i 1) b (fStrike (zE z (sL i 1) b)) := rfl
  rw [e0]
  generalize sE z (sL i 1) b (fStrike (zE z (sL i 1) b)) = z1 at u ⊢
  have L := lds_L hi (k := 0) (by decide) (nI b) z1 (zN z 0)
  generalize itr (kLd i 0 (nI b)) (zN z 0) z1 = z2 at L ⊢
  have C := cls_L hi (nI b) z2 (zN z (sL i 0))
  generalize itr (kCl i (nI b)) (zN z (sL i 0)) z2 = z3 at C ⊢
  have n10 : ¬ (1 : Nat) = 0 := by decide
  refine ⟨fun c hc => ?_, ?_, fun k c hk => ?_, fun a k c ha hk hne => ?_, fun c h1 => ?_⟩
  · rw [C.2 i 1 c hi (by decide), if_neg (fun q => n10 q.2.1), L.2 i 1 c hi (by decide), if_neg (fun q => n10 q.2.1), u.2.2 i 1 c hi (by decide), if_neg (fun q => hc q.2.2)]
  · rw [C.2 i 1 b hi (by decide), if_neg (fun q => n10 q.2.1), L.2 i 1 b hi (by decide), if_neg (fun q => n10 q.2.1), u.2.2 i 1 b hi (by decide), if_pos ⟨rfl, rfl, rfl⟩]
  · rw [C.1 k c hk, L.1 k c hk, u.2.1 k c hk]
    split
    · rename_i q
      rw [q.1, q.2]
    · rfl
  · rw [C.2 a k c ha hk, if_neg (fun q => hne q.1), L.2 a k c ha hk, if_neg (fun q => hne q.1), u.2.2 a k c ha hk, if_neg (fun q => hne q.1)]
  · have e1 : zE z1 (sL i 0) c = zE z (sL i 0) c := by rw [u.2.2 i 0 c hi (by decide), if_neg (fun q => absurd q.2.1 (by decide))]
    have e2 : zE z2 (sL i 0) c = zE z (sL i 0) c := by
      rw [L.2 i 0 c hi (by decide)]
      split
      · rw [ldV_m (by rw [e1]; exact h1), e1]
      · exact e1
    rw [C.2 i 0 c hi (by decide)]
    split
    · rw [clV_1, clV_2, e2]
      exact ⟨h1, rfl⟩
    · rw [e2]
      exact ⟨h1, rfl⟩
/-- the books of an author, one after the other -/
theorem rbs_K {i : Nat} {t : Int32} {z : cZ} (hi : i < 3) : ∀ n, (∀ c, n ≤ c → zE (itr (kRb i t) n z) (sL i 1) c = zE z (sL i 1) c) ∧ (∀ c, c < n → zE (itr (kRb i t) n z) (sL i 1) c = if fRefs (zE z (sL i 1) c) t = true then fStrike (zE z (sL i 1) c) else zE z (sL i 1) c) ∧ (∀ k c, k < 2 → zR (itr (kRb i t) n z) k c = zR z k c) ∧ (∀ a k c, a < 3 → k < 2 → a ≠ i → zE (itr (kRb i t) n z) (sL a k) c = zE z (sL a k) c) ∧ ∀ c, (zE z (sL i 0) c).1 = true → (zE (itr (kRb i t) n z) (sL i 0) c).1 = true ∧ (zE (itr (kRb i t) n z) (sL i 0) c).2.1 = (zE z (sL i 0) c).2.1 := by
  intro n
  induction n with
  | zero => exact ⟨fun _ _ => rfl, fun c hc => absurd hc (Nat.not_lt_zero c), fun _ _ _ => rfl, fun _ _ _ _ _ _ => rfl, fun _ h => ⟨h, rfl⟩⟩
  | succ n ih =>
    obtain ⟨i1, i2, i3, i4, i5⟩ := ih
    show (∀ c, n + 1 ≤ c → zE (kRb i t n (itr (kRb i t) n z)) (sL i 1) c = _) ∧ (∀ c, c < n + 1 → zE (kRb i t n (itr (kRb i t) n z)) (sL i 1) c = _) ∧ (∀ k c, k < 2 → zR (kRb i t n (itr (kRb i t) n z)) k c = _) ∧ (∀ a k c, a < 3 → k < 2 → a ≠ i → zE (kRb i t n (itr (kRb i t) n z)) (sL a k) c = _) ∧ ∀ c, (zE z (sL i 0) c).1 = true → (zE (kRb i t n (itr (kRb i t) n z)) (sL i 0) c).1 = true ∧ (zE (kRb i t n (itr (kRb i t) n z)) (sL i 0) c).2.1 = _
    generalize itr (kRb i t) n z = zz at i1 i2 i3 i4 i5 ⊢
    unfold kRb
    rw [i1 n (Nat.le_refl n)]
    split
    · rename_i q
      have K := rmB_K (i := i) (b := n) (z := zz) hi
      refine ⟨fun c hc => by rw [K.1 c (by omega)]; exact i1 c (by omega), fun c hc => ?_, fun k c hk => by rw [K.2.2.1 k c hk]; exact i3 k c hk, fun a k c ha hk hne => by rw [K.2.2.2.1 a k c ha hk hne]; exact i4 a k c ha hk hne, fun c h1 => ?_⟩
      · by_cases e : c = n
        · rw [e, K.2.1, i1 n (Nat.le_refl n), if_pos q]
        · rw [K.1 c e]
          exact i2 c (by omega)
      · have h9 := i5 c h1
        have h8 := K.2.2.2.2 c h9.1
        exact ⟨h8.1, h8.2.trans h9.2⟩
    · rename_i q
      refine ⟨fun c hc => i1 c (by omega), fun c hc => ?_, i3, i4, i5⟩
      by_cases e : c = n
      · rw [e, i1 n (Nat.le_refl n), if_neg q]
      · exact i2 c (by omega)
theorem jA.rbs {z : cZ} (h : jA z) (hq : cEq z) {i n : Nat} (hi : i < 3) (hn : n ≤ zN z 1) (t : Int32) : jA (itr (kRb i t) n z) :=
  Q_it (Q := jA) (N0 := zN z) (kRb_N i t) (fun j z2 hj hz2 h2 => by
    unfold kRb
    split
    · exact h2.rmB (cEq_N hz2 hq) hi (by rw [hz2]; omega)
    · exact h2) rfl h
theorem jI.rbs {X : Nat → Nat → Prop} {z : cZ} (hA : jA z) (hq : cEq z) (hn8 : ∀ u, u < 8 → zN z u ≤ 1024) {i n : Nat} (h : jI X i z) (hi : i < 3) (hn : n ≤ zN z 1) (t : Int32) : jI X i (itr (kRb i t) n z) :=
  (Q_it (Q := fun z => jA z ∧ jI X i z) (N0 := zN z) (kRb_N i t) (fun j z2 hj hz2 h2 => by
    unfold kRb
    split
    · exact ⟨h2.1.rmB (cEq_N hz2 hq) hi (by rw [hz2]; omega), jI.rmB h2.1 (cEq_N hz2 hq) (by rw [hz2]; exact hn8) h2.2 hi (by rw [hz2]; omega)⟩
    · exact h2) rfl ⟨hA, h⟩).2
theorem jA.rmA {z : cZ} (h : jA z) (hq : cEq z) {i a : Nat} (hi : i < 3) (ha : a < zN z 0) : jA (kRmA i a z) := by
  unfold kRmA kRm0
  rw [hq i 1 hi (by decide)]
  exact ((h.st hi (by decide) ha).lds hi (by decide) (nI a) (Nat.le_refl _)).rbs (cEq_N (kRm0_N i a z) hq) hi (Nat.le_of_eq (congrFun (kRm0_N i a z) 1).symm) _
theorem jI.rmA {X : Nat → Nat → Prop} {z : cZ} (hA : jA z) (hq : cEq z) (hn8 : ∀ u, u < 8 → zN z u ≤ 1024) {i a : Nat} (h : jI X i z) (hi : i < 3) (ha : a < zN z 0) : jI X i (kRmA i a z) := by
  have ha9 := hn8 0 (by decide)
  have a1 := hA.st hi (by decide) ha
  have i1 := jI.st hA h hi (by decide) ha
  have L := lds_L hi (k := 1) (by decide) (nI a) (kSt i 0 a z) (zN z 1)
  have a2 := a1.lds hi (by decide : 1 < 2) (nI a) (n := zN z 1) (Nat.le_refl _)
  have i2 := jI.lds a1 i1 hi (by decide : 1 < 2) (nI a) (n := zN z 1) (Nat.le_refl _)
  have N2 : zN (itr (kLd i 1 (nI a)) (zN z 1) (kSt i 0 a z)) = zN z := itr_N (kLd_N i 1 (nI a)) _ _
  have e9 : kRmA i a z = itr (kRb i (nI a)) (zN z 1) (itr (kLd i 1 (nI a)) (zN z 1) (kSt i 0 a z)) := by
    unfold kRmA kRm0
    rw [hq i 1 hi (by decide)]
  rw [e9]
  have hE1 : ∀ c, c < zN z 1 → zE (itr (kLd i 1 (nI a)) (zN z 1) (kSt i 0 a z)) (sL i 1) c = ldV (nI a) (zR z 1 c) (zE z (sL i 1) c) := fun c hc => by
    rw [L.2 i 1 c hi (by decide), if_pos ⟨rfl, rfl, hc⟩]
    have u := zU_E (z := z) (i := i) (k := 0) (j := a) (v := fStrike (zE z (sL i 0) a)) (by decide)
    have e8 : zE (kSt i 0 a z) (sL i 1) c = zE z (sL i 1) c := by
      show zE (sE z (sL i 0) a (fStrike (zE z (sL i 0) a))) (sL i 1) c = _
      rw [u.2.2 i 1 c hi (by decide), if_neg (fun q => absurd q.2.1 (by decide))]
    rw [e8]
    rfl
  generalize itr (kLd i 1 (nI a)) (zN z 1) (kSt i 0 a z) = z2 at L a2 i2 N2 hE1 ⊢
  have K := rbs_K (i := i) (t := nI a) (z := z2) hi (zN z 1)
  have i3 := jI.rbs (n := zN z 1) a2 (cEq_N N2 hq) (by rw [N2]; exact hn8) i2 hi (by rw [N2]; exact Nat.le_refl _) (nI a)
  have N3 : zN (itr (kRb i (nI a)) (zN z 1) z2) = zN z := (itr_N (kRb_N i (nI a)) _ _).trans N2
  generalize itr (kRb i (nI a)) (zN z 1) z2 = z3 at K i3 N3 ⊢
  have hR3 : ∀ k c, k < 2 → zR z3 k c = zR z k c := fun k c hk => by
    rw [K.2.2.1 k c hk, L.1 k c hk]
    rfl
  refine ⟨i3.1, fun k j q hk hj hq9 hX hl hr => ?_, fun k j q hk hj hq9 hX hg ht hr => ?_⟩
  · by_cases r : 1 - k = 0 ∧ q = a
    · have hk0 : k = 1 := by omega
      subst hk0
      rw [N3] at hj
      rw [K.2.1 j hj] at hl hr
      rw [r.2] at hr
      by_cases s : fRefs (zE z2 (sL i 1) j) (nI a) = true
      · rw [if_pos s] at hl
        cases h3 : (zE z2 (sL i 1) j).2.2.1
        · rw [fStrike_f _ h3] at hl
          exact ff hl
        · rw [fStrike_3 _ h3] at hl
          have q9 : ((zE z2 (sL i 1) j).1 && !true) = true := hl
          simp at q9
      · rw [if_neg s] at hl hr
        exact absurd (by show (fLive (zE z2 (sL i 1) j) && decide (eRf (zE z2 (sL i 1) j) = nI a)) = true; rw [hl, decide_eq_true hr]; rfl) s
    · exact i3.2.1 k j q hk hj hq9 (fun s => s.elim hX (fun s => r s)) hl hr
  · by_cases r : 1 - k = 0 ∧ q = a
    · have hk0 : k = 1 := by omega
      subst hk0
      rw [N3] at hj
      rw [hR3 1 j (by decide)] at ht hr
      have h1 : (zE z2 (sL i 1) j).1 = true := by
        rw [hE1 j hj]
        exact ldV_1 ht (by rw [hr, r.2])
      rw [K.2.1 j hj]
      split
      · cases h3 : (zE z2 (sL i 1) j).2.2.1
        · -- a made object has no row
          have h9 := (a2.2.2.2 i 1 j hi (by decide) (by rw [N2]; exact hj) (by show ((zE z2 (sL i 1) j).1 && !(zE z2 (sL i 1) j).2.2.1) = true; rw [h1, h3]; rfl)).1
          rw [L.1 1 j (by decide)] at h9
          have h9 : (zR z 1 j).1 = false := h9
          rw [ht] at h9
          exact absurd h9 (by decide)
        · rw [fStrike_3 _ h3]
          exact h1
      · exact h1
    · exact i3.2.2 k j q hk hj hq9 (fun s => s.elim hX (fun s => r s)) hg ht hr
/-- everything is forgotten -/
theorem jA.fg {z : cZ} (h : jA z) {i k j : Nat} (hi : i < 3) (hk : k < 2) (hj : j < zN z k) : jA (kFg i k j z) :=
  h.e (e := fForget (zE z (sL i k) j)) hi hk hj (zU_E hk) (fun q => ff q) (fun q => ff q) (fun q => ff q) (fun q => ff q) (fun q => ff q)
theorem fgs_L {i k : Nat} (hi : i < 3) (hk : k < 2) (z : cZ) (n : Nat) : (∀ b c, b < 2 → zR (itr (kFg i k) n z) b c = zR z b c) ∧ (∀ a b c, a < 3 → b < 2 → zE (itr (kFg i k) n z) (sL a b) c = if a = i ∧ b = k ∧ c < n then fForget (zE z (sL i k) c) else zE z (sL a b) c) := by
  have l := itr_loc (F := kFg i k) (i := i) (k := k) (fr := fun _ r _ => r) (fe := fun _ _ e => fForget e) (P := fun _ => True) hi hk (fun j z2 _ => zU_E hk) (fun _ _ _ => trivial) (z := z) trivial n
  refine ⟨fun b c hb => ?_, l.2.2⟩
  rw [l.2.1 b c hb]
  split
  · rename_i q
    rw [q.1]
  · rfl
def kCr (i : Nat) (z : cZ) : cZ := itr (kFg i 1) (zN z (sL i 1)) (itr (kFg i 0) (zN z (sL i 0)) z)
theorem kCr_N (i : Nat) (z : cZ) : zN (kCr i z) = zN z := (itr_N (kFg_N i 1) _ _).trans (itr_N (kFg_N i 0) _ _)
theorem kCr_K {i : Nat} {z : cZ} (hq : cEq z) (hi : i < 3) : (∀ k c, k < 2 → zR (kCr i z) k c = zR z k c) ∧ (∀ k c, k < 2 → c < zN z k → zE (kCr i z) (sL i k) c = fForget (zE z (sL i k) c)) ∧ ∀ a k c, a < 3 → k < 2 → a ≠ i → zE (kCr i z) (sL a k) c = zE z (sL a k) c := by
  unfold kCr
  rw [hq i 0 hi (by decide), hq i 1 hi (by decide)]
  have a := fgs_L hi (k := 0) (by decide) z (zN z 0)
  have b := fgs_L hi (k := 1) (by decide) (itr (kFg i 0) (zN z 0) z) (zN z 1)
  refine ⟨fun k c hk => by rw [b.1 k c hk, a.1 k c hk], fun k c hk hc => ?_, fun a2 k c ha hk hne => by rw [b.2 a2 k c ha hk, if_neg (fun q => hne q.1), a.2 a2 k c ha hk, if_neg (fun q => hne q.1)]⟩
  rw [b.2 i k c hi hk, a.2 i k c hi hk]
  rcases (show k = 0 ∨ k = 1 by omega) with rfl | rfl
  · rw [if_neg (fun q => absurd q.2.1 (by decide)), if_pos ⟨rfl, rfl, hc⟩]
  · rw [if_pos ⟨rfl, rfl, hc⟩, a.2 i 1 c hi (by decide), if_neg (fun q => absurd q.2.1 (by decide))]
theorem jA.cr {z : cZ} (h : jA z) (hq : cEq z) {i : Nat} (hi : i < 3) : jA (kCr i z) := by
  unfold kCr
  rw [hq i 1 hi (by decide), hq i 0 hi (by decide)]
  refine Q_it (Q := jA) (N0 := zN z) (kFg_N i 1) (fun j z2 hj hz2 h2 => h2.fg hi (by decide) (by rw [hz2]; exact hj)) (itr_N (kFg_N i 0) _ _) ?_
  exact Q_it (Q := jA) (N0 := zN z) (kFg_N i 0) (fun j z2 hj hz2 h2 => h2.fg hi (by decide) (by rw [hz2]; exact hj)) rfl h
/-- a session that knows nothing isn't stale -/
theorem jI.cr {X : Nat → Nat → Prop} {z : cZ} (hq : cEq z) {i : Nat} (hi : i < 3) : jI X i (kCr i z) := by
  have K := kCr_K hq hi
  have N := kCr_N i z
  refine ⟨fun k j hk hj h => ?_, fun k j q hk hj _ _ h => ?_, fun k j q hk _ hq2 _ h => ?_⟩
  · rw [N] at hj
    rw [K.2.1 k j hk hj] at h
    exact ff h
  · rw [N] at hj
    rw [K.2.1 k j hk hj] at h
    exact ff h
  · rw [N] at hq2
    rw [K.2.1 (1 - k) q (by omega) hq2] at h
    exact ff h
theorem jI.cro {X : Nat → Nat → Prop} {z : cZ} {i a : Nat} (h : jI X a z) (hq : cEq z) (hi : i < 3) (ha : a < 3) (hne : a ≠ i) : jI X a (kCr i z) := by
  have K := kCr_K hq hi
  have N := kCr_N i z
  obtain ⟨s, c, d⟩ := h
  refine ⟨fun k j hk hj => ?_, fun k j q hk hj hq2 => ?_, fun k j q hk hj hq2 => ?_⟩
  · rw [N] at hj
    rw [K.2.2 a k j ha hk hne, K.1 k j hk]
    exact s k j hk hj
  · rw [N] at hj hq2
    unfold tB
    rw [K.2.2 a k j ha hk hne, K.2.2 a (1 - k) q ha (by omega) hne, K.1 (1 - k) q (by omega)]
    exact c k j q hk hj hq2
  · rw [N] at hj hq2
    rw [K.2.2 a k j ha hk hne, K.2.2 a (1 - k) q ha (by omega) hne, K.1 k j hk]
    exact d k j q hk hj hq2
