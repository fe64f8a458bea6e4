/-! P23, PURE: what a flush does to each key -/
/-- a loop whose step touches its own key alone: fr, fe say what comes of the row and the object -/
theorem itr_loc {F : Nat → cZ → cZ} {i k : Nat} {fr : Nat → vR → vE → vR} {fe : Nat → vR → vE → vE} {P : cZ → Prop} (hi : i < 3) (hk : k < 2) (hU : ∀ j z, P z → zU z (F j z) i k j (fr j (zR z k j) (zE z (sL i k) j)) (fe j (zR z k j) (zE z (sL i k) j))) (hP : ∀ j z, P z → P (F j z)) {z : cZ} (h0 : P z) : ∀ n, P (itr F n z) ∧ (∀ b c, b < 2 → zR (itr F n z) b c = if b = k ∧ c < n then fr c (zR z k c) (zE z (sL i k) c) else zR z b c) ∧ (∀ a b c, a < 3 → b < 2 → zE (itr F n z) (sL a b) c = if a = i ∧ b = k ∧ c < n then fe c (zR z k c) (zE z (sL i k) c) else zE z (sL a b) c) := by
  intro n
  induction n with
  | zero => exact ⟨h0, fun b c _ => by rw [if_neg (fun q => absurd q.2 (Nat.not_lt_zero c))]; rfl, fun a b c _ _ => by rw [if_neg (fun q => absurd q.2.2 (Nat.not_lt_zero c))]; rfl⟩
  | succ n ih =>
    obtain ⟨ip, ir, ie⟩ := ih
    have u := hU n (itr F n z) ip
    have hr : zR (itr F n z) k n = zR z k n := by rw [ir k n hk, if_neg (fun q => absurd q.2 (Nat.lt_irrefl n))]
    have he : zE (itr F n z) (sL i k) n = zE z (sL i k) n := by rw [ie i k n hi hk, if_neg (fun q => absurd q.2.2 (Nat.lt_irrefl n))]
    rw [hr, he] at u
    refine ⟨hP n _ ip, fun b c hb => ?_, fun a b c ha hb => ?_⟩
    · show zR (F n (itr F n z)) b c = _
      rw [u.2.1 b c hb]
      by_cases q : b = k ∧ c = n
      · rw [if_pos q, if_pos ⟨q.1, by omega⟩, q.2]
      · rw [if_neg q, ir b c hb]
        by_cases q2 : b = k ∧ c < n
        · rw [if_pos q2, if_pos ⟨q2.1, by omega⟩]
        · rw [if_neg q2, if_neg (fun r => by
            have : c ≠ n := fun e => q ⟨r.1, e⟩
            exact q2 ⟨r.1, by omega⟩)]
    · show zE (F n (itr F n z)) (sL a b) c = _
      rw [u.2.2 a b c ha hb]
      by_cases q : a = i ∧ b = k ∧ c = n
      · rw [if_pos q, if_pos ⟨q.1, q.2.1, by omega⟩, q.2.2]
      · rw [if_neg q, ie a b c ha hb]
        by_cases q2 : a = i ∧ b = k ∧ c < n
        · rw [if_pos q2, if_pos ⟨q2.1, q2.2.1, by omega⟩]
        · rw [if_neg q2, if_neg (fun r => by
            have : c ≠ n := fun e => q ⟨r.1, r.2.1, e⟩
            exact q2 ⟨r.1, r.2.1, by omega⟩)]
def upR (r : vR) (e : vE) : vR := if fChg e = true then fUpd r (eNm e) (eRf e) else r
def upV (r : vR) (e : vE) : vE := if fChg e = true then fSnap e (fUpd r (eNm e) (eRf e)) else e
def deR (r : vR) (e : vE) : vR := if e.2.1 = true then fGo r else r
def deV (e : vE) : vE := if e.2.1 = true then fForget e else e
def inR (rf : Int32) (r : vR) (e : vE) : vR := if fNew e = true then (true, eNm e, rf, 0) else r
def inV (rf : Int32) (e : vE) : vE := if fNew e = true then fSnap e (true, eNm e, rf, 0) else e
theorem kUp_L {i k j : Nat} {z : cZ} (hk : k < 2) : zU z (kUp i k j z) i k j (upR (zR z k j) (zE z (sL i k) j)) (upV (zR z k j) (zE z (sL i k) j)) := by
  unfold kUp upR upV
  split
  · exact kUd_U hk
  · exact zU.rf
theorem kDe_L {i k j : Nat} {z : cZ} (hk : k < 2) : zU z (kDe i k j z) i k j (deR (zR z k j) (zE z (sL i k) j)) (deV (zE z (sL i k) j)) := by
  unfold kDe deR deV
  split
  · exact kDl_U hk
  · exact zU.rf
theorem kIb_L {i j : Nat} {z : cZ} : zU z (kIb i j z) i 1 j (inR (eRf (zE z (sL i 1) j)) (zR z 1 j) (zE z (sL i 1) j)) (inV (eRf (zE z (sL i 1) j)) (zE z (sL i 1) j)) := by
  unfold kIb inR inV
  split
  · exact kIn_U (by decide)
  · exact zU.rf
/-- the favourite that an author is inserted with, by the books' rows V -/
def fav (V : Int32 → Bool) (rf : Int32) : Int32 := if V rf = true then rf else -1
theorem kIa_L {i j : Nat} {z : cZ} {V : Int32 → Bool} (hV : ∀ ky, (rV z 1 ky).1 = V ky) : zU z (kIa i j z) i 0 j (inR (fav V (eRf (zE z (sL i 0) j))) (zR z 0 j) (zE z (sL i 0) j)) (inV (fav V (eRf (zE z (sL i 0) j))) (zE z (sL i 0) j)) := by
  unfold kIa inR inV fav
  rw [hV]
  split
  · exact kIn_U (by decide)
  · exact zU.rf
/-- a whole flush, key by key: an author -/
def flR (rf : Int32) (r : vR) (e : vE) : vR := deR (upR (inR rf r e) (inV rf e)) (upV (inR rf r e) (inV rf e))
def flV (rf : Int32) (r : vR) (e : vE) : vE := deV (upV (inR rf r e) (inV rf e))
theorem kFl_key {i : Nat} {z : cZ} (hq : cEq z) (hi : i < 3) : (∀ c, c < zN z 0 → zR (kFl i z) 0 c = flR (fav (fun ky => (rV z 1 ky).1) (eRf (zE z (sL i 0) c))) (zR z 0 c) (zE z (sL i 0) c) ∧ zE (kFl i z) (sL i 0) c = flV (fav (fun ky => (rV z 1 ky).1) (eRf (zE z (sL i 0) c))) (zR z 0 c) (zE z (sL i 0) c)) ∧ (∀ c, c < zN z 1 → zR (kFl i z) 1 c = flR (eRf (zE z (sL i 1) c)) (zR z 1 c) (zE z (sL i 1) c) ∧ zE (kFl i z) (sL i 1) c = flV (eRf (zE z (sL i 1) c)) (zR z 1 c) (zE z (sL i 1) c)) ∧ ∀ a b c, a < 3 → b < 2 → a ≠ i → zE (kFl i z) (sL a b) c = zE z (sL a b) c := by
  have c0 := hq i 0 hi (by decide)
  have c1 := hq i 1 hi (by decide)
  -- authors are inserted
  have l1 := itr_loc (F := kIa i) (i := i) (k := 0) (fr := fun _ r e => inR (fav (fun ky => (rV z 1 ky).1) (eRf e)) r e) (fe := fun _ _ e => inV (fav (fun ky => (rV z 1 ky).1) (eRf e)) e) (P := fun z2 => ∀ ky, (rV z2 1 ky).1 = (rV z 1 ky).1) hi (by decide) (fun j z2 h2 => kIa_L h2) (fun j z2 h2 ky => by
    have u := kIa_L (i := i) (j := j) (z := z2) (V := fun ky => (rV z 1 ky).1) h2
    rw [← h2 ky]
    unfold rV
    rw [u.1]
    split
    · rw [u.2.1 1 _ (by decide), if_neg (fun q => absurd q.1 (by decide))]
    · rfl) (z := z) (fun _ => rfl) (zN z 0)
  have e1 : itr (kIa i) (zN z 0) z = kF1 i z := by unfold kF1; rw [c0]
  rw [e1] at l1
  have N1 : zN (kF1 i z) = zN z := itr_N (kIa_st i).N _ _
  -- books
  have l2 := itr_loc (F := kIb i) (i := i) (k := 1) (fr := fun _ r e => inR (eRf e) r e) (fe := fun _ _ e => inV (eRf e) e) (P := fun _ => True) hi (by decide) (fun j z2 _ => kIb_L) (fun _ _ _ => trivial) (z := kF1 i z) trivial (zN z 1)
  have e2 : itr (kIb i) (zN z 1) (kF1 i z) = kF2 i (kF1 i z) := by unfold kF2; rw [N1, c1]
  rw [e2] at l2
  have N2 : zN (kF2 i (kF1 i z)) = zN z := (itr_N (kIb_st i).N _ _).trans N1
  have l3 := itr_loc (F := kUp i 0) (i := i) (k := 0) (fr := fun _ r e => upR r e) (fe := fun _ r e => upV r e) (P := fun _ => True) hi (by decide) (fun j z2 _ => kUp_L (by decide)) (fun _ _ _ => trivial) (z := kF2 i (kF1 i z)) trivial (zN z 0)
  have e3 : itr (kUp i 0) (zN z 0) (kF2 i (kF1 i z)) = kF3 i 0 (kF2 i (kF1 i z)) := by unfold kF3; rw [N2, c0]
  rw [e3] at l3
  have N3 : zN (kF3 i 0 (kF2 i (kF1 i z))) = zN z := (itr_N (kUp_st i 0).N _ _).trans N2
  have l4 := itr_loc (F := kUp i 1) (i := i) (k := 1) (fr := fun _ r e => upR r e) (fe := fun _ r e => upV r e) (P := fun _ => True) hi (by decide) (fun j z2 _ => kUp_L (by decide)) (fun _ _ _ => trivial) (z := kF3 i 0 (kF2 i (kF1 i z))) trivial (zN z 1)
  have e4 : itr (kUp i 1) (zN z 1) (kF3 i 0 (kF2 i (kF1 i z))) = kF3 i 1 (kF3 i 0 (kF2 i (kF1 i z))) := by
    show _ = itr (kUp i 1) (zN (kF3 i 0 (kF2 i (kF1 i z))) (sL i 1)) (kF3 i 0 (kF2 i (kF1 i z)))
    rw [N3, c1]
  rw [e4] at l4
  have N4 : zN (kF3 i 1 (kF3 i 0 (kF2 i (kF1 i z)))) = zN z := (itr_N (kUp_st i 1).N _ _).trans N3
  have l5 := itr_loc (F := kDe i 1) (i := i) (k := 1) (fr := fun _ r e => deR r e) (fe := fun _ _ e => deV e) (P := fun _ => True) hi (by decide) (fun j z2 _ => kDe_L (by decide)) (fun _ _ _ => trivial) (z := kF3 i 1 (kF3 i 0 (kF2 i (kF1 i z)))) trivial (zN z 1)
  have e5 : itr (kDe i 1) (zN z 1) (kF3 i 1 (kF3 i 0 (kF2 i (kF1 i z)))) = kF4 i 1 (kF3 i 1 (kF3 i 0 (kF2 i (kF1 i z)))) := by
    show _ = itr (kDe i 1) (zN (kF3 i 1 (kF3 i 0 (kF2 i (kF1 i z)))) (sL i 1)) (kF3 i 1 (kF3 i 0 (kF2 i (kF1 i z))))
    rw [N4, c1]
  rw [e5] at l5
  have N5 : zN (kF4 i 1 (kF3 i 1 (kF3 i 0 (kF2 i (kF1 i z))))) = zN z := (itr_N (kDe_st i 1).N _ _).trans N4
  have l6 := itr_loc (F := kDe i 0) (i := i) (k := 0) (fr := fun _ r e => deR r e) (fe := fun _ _ e => deV e) (P := fun _ => True) hi (by decide) (fun j z2 _ => kDe_L (by decide)) (fun _ _ _ => trivial) (z := kF4 i 1 (kF3 i 1 (kF3 i 0 (kF2 i (kF1 i z))))) trivial (zN z 0)
  have e6 : itr (kDe i 0) (zN z 0) (kF4 i 1 (kF3 i 1 (kF3 i 0 (kF2 i (kF1 i z))))) = kFl i z := by
    show _ = itr (kDe i 0) (zN (kF4 i 1 (kF3 i 1 (kF3 i 0 (kF2 i (kF1 i z))))) (sL i 0)) (kF4 i 1 (kF3 i 1 (kF3 i 0 (kF2 i (kF1 i z)))))
    rw [N5, c0]
  rw [e6] at l6
  generalize kF1 i z = z1 at l1 l2 l3 l4 l5 l6
  generalize kF2 i z1 = z2 at l2 l3 l4 l5 l6
  generalize kF3 i 0 z2 = z3 at l3 l4 l5 l6
  generalize kF3 i 1 z3 = z4 at l4 l5 l6
  generalize kF4 i 1 z4 = z5 at l5 l6
  have n10 : ¬ (1 : Nat) = 0 := by decide
  have n01 : ¬ (0 : Nat) = 1 := by decide
  refine ⟨fun c hc => ?_, fun c hc => ?_, fun a b c ha hb hne => ?_⟩
  · have r1 := l1.2.1 0 c (by decide)
    have r2 := l2.2.1 0 c (by decide)
    have r3 := l3.2.1 0 c (by decide)
    have r4 := l4.2.1 0 c (by decide)
    have r5 := l5.2.1 0 c (by decide)
    have r6 := l6.2.1 0 c (by decide)
    have v1 := l1.2.2 i 0 c hi (by decide)
    have v2 := l2.2.2 i 0 c hi (by decide)
    have v3 := l3.2.2 i 0 c hi (by decide)
    have v4 := l4.2.2 i 0 c hi (by decide)
    have v5 := l5.2.2 i 0 c hi (by decide)
    have v6 := l6.2.2 i 0 c hi (by decide)
    rw [if_pos ⟨rfl, hc⟩] at r1 r3 r6
    rw [if_neg (fun q => n01 q.1)] at r2 r4 r5
    rw [if_pos ⟨rfl, rfl, hc⟩] at v1 v3 v6
    rw [if_neg (fun q => n01 q.2.1)] at v2 v4 v5
    rw [r2, v2, r1, v1] at r3 v3
    rw [r5, v5, r4, v4, r3, v3] at r6
    rw [v5, v4, v3] at v6
    exact ⟨r6, v6⟩
  · have r1 := l1.2.1 1 c (by decide)
    have r2 := l2.2.1 1 c (by decide)
    have r3 := l3.2.1 1 c (by decide)
    have r4 := l4.2.1 1 c (by decide)
    have r5 := l5.2.1 1 c (by decide)
    have r6 := l6.2.1 1 c (by decide)
    have v1 := l1.2.2 i 1 c hi (by decide)
    have v2 := l2.2.2 i 1 c hi (by decide)
    have v3 := l3.2.2 i 1 c hi (by decide)
    have v4 := l4.2.2 i 1 c hi (by decide)
    have v5 := l5.2.2 i 1 c hi (by decide)
    have v6 := l6.2.2 i 1 c hi (by decide)
    rw [if_neg (fun q => n10 q.1)] at r1 r3 r6
    rw [if_pos ⟨rfl, hc⟩] at r2 r4 r5
    rw [if_neg (fun q => n10 q.2.1)] at v1 v3 v6
    rw [if_pos ⟨rfl, rfl, hc⟩] at v2 v4 v5
    rw [r1, v1] at r2
    rw [v1] at v2
    rw [r3, v3, r2, v2] at r4 v4
    rw [r4, v4] at r5
    rw [v4] at v5
    exact ⟨r6.trans r5, v6.trans v5⟩
  · rw [l6.2.2 a b c ha hb, if_neg (fun q => hne q.1), l5.2.2 a b c ha hb, if_neg (fun q => hne q.1), l4.2.2 a b c ha hb, if_neg (fun q => hne q.1), l3.2.2 a b c ha hb, if_neg (fun q => hne q.1), l2.2.2 a b c ha hb, if_neg (fun q => hne q.1), l1.2.2 a b c ha hb, if_neg (fun q => hne q.1)]
