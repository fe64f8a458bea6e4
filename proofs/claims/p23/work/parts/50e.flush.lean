/-! P23, PURE: a flush of a session that isn't stale -/
theorem inR_f {rf : Int32} {r : vR} {e : vE} (h : fNew e = false) : inR rf r e = r := if_neg (by rw [h]; decide)
theorem inV_f {rf : Int32} {e : vE} (h : fNew e = false) : inV rf e = e := if_neg (by rw [h]; decide)
theorem inR_t {rf : Int32} {r : vR} {e : vE} (h : fNew e = true) : inR rf r e = (true, eNm e, rf, 0) := if_pos h
theorem inV_t {rf : Int32} {e : vE} (h : fNew e = true) : inV rf e = fSnap e (true, eNm e, rf, 0) := if_pos h
theorem upR_f {r : vR} {e : vE} (h : fChg e = false) : upR r e = r := if_neg (by rw [h]; decide)
theorem upV_f {r : vR} {e : vE} (h : fChg e = false) : upV r e = e := if_neg (by rw [h]; decide)
theorem upR_t {r : vR} {e : vE} (h : fChg e = true) : upR r e = fUpd r (eNm e) (eRf e) := if_pos h
theorem upV_t {r : vR} {e : vE} (h : fChg e = true) : upV r e = fSnap e (fUpd r (eNm e) (eRf e)) := if_pos h
theorem deR_f {r : vR} {e : vE} (h : e.2.1 = false) : deR r e = r := if_neg (by rw [h]; decide)
theorem deV_f {e : vE} (h : e.2.1 = false) : deV e = e := if_neg (by rw [h]; decide)
theorem deR_t {r : vR} {e : vE} (h : e.2.1 = true) : deR r e = fGo r := if_pos h
theorem deV_t {e : vE} (h : e.2.1 = true) : deV e = fForget e := if_pos h
theorem upV_2 {r : vR} {e : vE} : (upV r e).2.1 = e.2.1 := by
  unfold upV
  split <;> rfl
/-- what a flush leaves of a key: the object went, is written, or isn't in the session -/
theorem fl_1 {rf : Int32} {r : vR} {e : vE} (h31 : e.2.2.1 = true → e.1 = true) (h23 : e.2.1 = true → e.2.2.1 = true) (hg : e.2.1 = true) : (flR rf r e).1 = false ∧ (flV rf r e).1 = false ∧ (flV rf r e).2.1 = false ∧ (flV rf r e).2.2.1 = false := by
  have hn : fNew e = false := by
    show (e.1 && !e.2.2.1) = false
    rw [h23 hg]
    simp
  have h2 : (upV r e).2.1 = true := upV_2.trans hg
  unfold flR flV
  rw [inR_f hn, inV_f hn, deR_t h2, deV_t h2]
  exact ⟨rfl, rfl, rfl, rfl⟩
theorem fl_3 {rf : Int32} {r : vR} {e : vE} (h31 : e.2.2.1 = true → e.1 = true) (h23 : e.2.1 = true → e.2.2.1 = true) (h1 : e.1 = false) : flR rf r e = r ∧ flV rf r e = e := by
  have h3 : e.2.2.1 = false := by
    cases q : e.2.2.1
    · rfl
    · rw [h31 q] at h1
      exact absurd h1 (by decide)
  have h2 : e.2.1 = false := by
    cases q : e.2.1
    · rfl
    · rw [h23 q] at h3
      exact absurd h3 (by decide)
  have hn : fNew e = false := by
    show (e.1 && !e.2.2.1) = false
    rw [h1]
    rfl
  have hc : fChg e = false := by
    cases q : fChg e
    · rfl
    · rw [fChg_3 q] at h3
      exact absurd h3 (by decide)
  unfold flR flV
  rw [inR_f hn, inV_f hn, upR_f hc, upV_f hc, deR_f h2, deV_f h2]
  exact ⟨rfl, rfl⟩
theorem fl_2 {rf : Int32} {r : vR} {e : vE} (hrf : rf = eRf e ∨ rf = -1) (hs : e.2.2.1 = true → r.1 = true ∧ e.2.2.2.2.2 = r.2) (hg : e.2.1 = false) (h1 : e.1 = true) : (flR rf r e).1 = true ∧ (flR rf r e).2.1 = eNm e ∧ (flR rf r e).2.2.1 = eRf e ∧ flV rf r e = (true, false, true, eNm e, eRf e, (flR rf r e).2) := by
  obtain ⟨b1, b2, b3, nm, rf9, sn, sr, sv⟩ := e
  obtain ⟨t, rn, rr, rv⟩ := r
  have hb1 : b1 = true := h1
  have hb2 : b2 = false := hg
  subst hb1
  subst hb2
  cases b3
  · -- new
    have hn : fNew (true, false, false, nm, rf9, sn, sr, sv) = true := rfl
    unfold flR flV
    rw [inR_t hn, inV_t hn]
    by_cases e9 : rf = rf9
    · subst e9
      have hc : fChg (fSnap (true, false, false, nm, rf, sn, sr, sv) (true, eNm (true, false, false, nm, rf, sn, sr, sv), rf, 0)) = false := by
        show (true && (decide (nm ≠ nm) || decide (rf ≠ rf))) = false
        simp
      rw [upR_f hc, upV_f hc, deR_f rfl, deV_f rfl]
      exact ⟨rfl, rfl, rfl, rfl⟩
    · have hc : fChg (fSnap (true, false, false, nm, rf9, sn, sr, sv) (true, eNm (true, false, false, nm, rf9, sn, sr, sv), rf, 0)) = true := by
        show (true && (decide (nm ≠ nm) || decide (rf9 ≠ rf))) = true
        have e8 : rf9 ≠ rf := fun q => e9 q.symm
        simp [e8]
      rw [upR_t hc, upV_t hc, deR_f rfl, deV_f rfl]
      exact ⟨rfl, rfl, rfl, rfl⟩
  · obtain ⟨ht, h2⟩ := hs rfl
    have ht : t = true := ht
    have h2 : (sn, sr, sv) = (rn, rr, rv) := h2
    obtain ⟨ea, h3⟩ := Prod.mk.inj h2
    obtain ⟨eb, ec⟩ := Prod.mk.inj h3
    subst ea
    subst eb
    subst ec
    subst ht
    have hn : fNew (true, false, true, nm, rf9, sn, sr, sv) = false := rfl
    unfold flR flV
    rw [inR_f hn, inV_f hn]
    cases hc : fChg (true, false, true, nm, rf9, sn, sr, sv)
    · rw [upR_f hc, upV_f hc, deR_f rfl, deV_f rfl]
      have hc9 : (true && (decide (nm ≠ sn) || decide (rf9 ≠ sr))) = false := hc
      rw [Bool.true_and, Bool.or_eq_false_iff] at hc9
      have e1 : nm = sn := Classical.not_not.mp (of_decide_eq_false hc9.1)
      have e2 : rf9 = sr := Classical.not_not.mp (of_decide_eq_false hc9.2)
      subst e1
      subst e2
      exact ⟨rfl, rfl, rfl, rfl⟩
    · rw [upR_t hc, upV_t hc, deR_f rfl, deV_f rfl]
      exact ⟨rfl, rfl, rfl, rfl⟩
theorem fav_or (V : Int32 → Bool) (rf : Int32) : fav V rf = rf ∨ fav V rf = -1 := by
  unfold fav
  split
  · exact Or.inl rfl
  · exact Or.inr rfl
/-- what a flush of session i leaves of each key -/
theorem fl_all {i : Nat} {z : cZ} (hA : jA z) (hs : jS i z) (hq : cEq z) (hi : i < 3) {k c : Nat} (hk : k < 2) (hc : c < zN z k) : ((zE z (sL i k) c).2.1 = true → (zR (kFl i z) k c).1 = false ∧ (zE (kFl i z) (sL i k) c).1 = false ∧ (zE (kFl i z) (sL i k) c).2.1 = false ∧ (zE (kFl i z) (sL i k) c).2.2.1 = false) ∧ ((zE z (sL i k) c).2.1 = false → (zE z (sL i k) c).1 = true → (zR (kFl i z) k c).1 = true ∧ (zR (kFl i z) k c).2.1 = eNm (zE z (sL i k) c) ∧ (zR (kFl i z) k c).2.2.1 = eRf (zE z (sL i k) c) ∧ zE (kFl i z) (sL i k) c = (true, false, true, eNm (zE z (sL i k) c), eRf (zE z (sL i k) c), (zR (kFl i z) k c).2)) ∧ ((zE z (sL i k) c).1 = false → zR (kFl i z) k c = zR z k c ∧ zE (kFl i z) (sL i k) c = zE z (sL i k) c) := by
  have K := kFl_key hq hi
  have f := hA.1 i k c hi hk hc
  have s := hs k c hk hc
  have key : ∃ rf9, (rf9 = eRf (zE z (sL i k) c) ∨ rf9 = -1) ∧ zR (kFl i z) k c = flR rf9 (zR z k c) (zE z (sL i k) c) ∧ zE (kFl i z) (sL i k) c = flV rf9 (zR z k c) (zE z (sL i k) c) := by
    rcases (show k = 0 ∨ k = 1 by omega) with rfl | rfl
    · exact ⟨_, fav_or _ _, (K.1 c hc).1, (K.1 c hc).2⟩
    · exact ⟨_, Or.inl rfl, (K.2.1 c hc).1, (K.2.1 c hc).2⟩
  obtain ⟨rf9, h1, h2, h3⟩ := key
  rw [h2, h3]
  exact ⟨fun q => fl_1 f.1 f.2 q, fun q q2 => fl_2 h1 s q q2, fun q => fl_3 f.1 f.2 q⟩
/-- three cases of an object -/
theorem e_3 (e : vE) : e.2.1 = true ∨ (e.2.1 = false ∧ e.1 = true) ∨ (e.2.1 = false ∧ e.1 = false) := by
  cases e.2.1 <;> cases e.1 <;> simp
theorem fl_th {i : Nat} {z : cZ} (hA : jA z) (hs : jS i z) (hq : cEq z) (hi : i < 3) {k c : Nat} (hk : k < 2) (hc : c < zN z k) : (zR (kFl i z) k c).1 = tB i z k c := by
  have h := fl_all hA hs hq hi hk hc
  have f := hA.1 i k c hi hk hc
  unfold tB
  rcases e_3 (zE z (sL i k) c) with q | ⟨q, q1⟩ | ⟨q, q1⟩
  · rw [(h.1 q).1, q, show fNew (zE z (sL i k) c) = false from by show ((zE z (sL i k) c).1 && !(zE z (sL i k) c).2.2.1) = false; rw [f.2 q, Bool.not_true, Bool.and_false]]
    rfl
  · rw [(h.2.1 q q1).1, q]
    cases h3 : (zE z (sL i k) c).2.2.1
    · rw [show fNew (zE z (sL i k) c) = true from by show ((zE z (sL i k) c).1 && !(zE z (sL i k) c).2.2.1) = true; rw [q1, h3]; rfl]
      rfl
    · rw [(hs k c hk hc h3).1, Bool.not_false, Bool.true_and, Bool.or_true]
  · rw [(h.2.2 q1).1, q, show fNew (zE z (sL i k) c) = false from by show ((zE z (sL i k) c).1 && _) = false; rw [q1]; rfl]
    rfl
/-- a row behind a flush refers to a row -/
theorem fl_wh {i : Nat} {z : cZ} (hA : jA z) (h : jI xN i z) (hq : cEq z) (hi : i < 3) {k c q : Nat} (hk : k < 2) (hc : c < zN z k) (hq9 : q < zN z (1 - k)) (ht : tB i z k c = true) (hr : (if (zE z (sL i k) c).1 = true then eRf (zE z (sL i k) c) else (zR z k c).2.2.1) = nI q) : tB i z (1 - k) q = true := by
  have f := hA.1 i k c hi hk hc
  rcases e_3 (zE z (sL i k) c) with g | ⟨g, g1⟩ | ⟨g, g1⟩
  · unfold tB at ht
    rw [g, show fNew (zE z (sL i k) c) = false from by show ((zE z (sL i k) c).1 && !(zE z (sL i k) c).2.2.1) = false; rw [f.2 g, Bool.not_true, Bool.and_false]] at ht
    exact absurd ht (by simp)
  · rw [if_pos g1] at hr
    exact h.2.1 k c q hk hc hq9 (fun r => r) (by show ((zE z (sL i k) c).1 && !(zE z (sL i k) c).2.1) = true; rw [g, g1]; rfl) hr
  · rw [if_neg (by rw [g1]; decide)] at hr
    unfold tB at ht
    rw [g, show fNew (zE z (sL i k) c) = false from by show ((zE z (sL i k) c).1 && _) = false; rw [g1]; rfl, Bool.false_or, Bool.not_false, Bool.true_and] at ht
    have hw := hA.2.2.1 k c q hk hc hq9 ht hr
    unfold tB
    rw [hw]
    cases hg : (zE z (sL i (1 - k)) q).2.1
    · rw [Bool.not_false, Bool.true_and, Bool.or_true]
    · rw [h.2.2 k c q hk hc hq9 (fun r => r) hg ht hr] at g1
      exact absurd g1 (by decide)
theorem jA.fl {i : Nat} {z : cZ} (hA : jA z) (h : jI xN i z) (hq : cEq z) (hn : ∀ u, u < 8 → zN z u ≤ 1024) (hi : i < 3) : jA (kFl i z) ∧ jI xN i (kFl i z) := by
  have N := kFl_N i z
  have K := (kFl_key hq hi).2.2
  have al := fun {k c : Nat} (hk : k < 2) (hc : c < zN z k) => fl_all hA h.1 hq hi hk hc
  have th := fun {k c : Nat} (hk : k < 2) (hc : c < zN z k) => fl_th hA h.1 hq hi hk hc
  -- the reference in a row behind the flush
  have rr : ∀ k c, k < 2 → c < zN z k → tB i z k c = true → (zR (kFl i z) k c).2.2.1 = (if (zE z (sL i k) c).1 = true then eRf (zE z (sL i k) c) else (zR z k c).2.2.1) := fun k c hk hc ht => by
    rcases e_3 (zE z (sL i k) c) with g | ⟨g, g1⟩ | ⟨g, g1⟩
    · rw [← th hk hc, ((al hk hc).1 g).1] at ht
      exact absurd ht (by decide)
    · rw [if_pos g1]
      exact ((al hk hc).2.1 g g1).2.2.1
    · rw [if_neg (by rw [g1]; decide), ((al hk hc).2.2 g1).1]
  have rn : ∀ k c, k < 2 → c < zN z k → tB i z k c = true → (zR (kFl i z) k c).2.1 = (if (zE z (sL i k) c).1 = true then eNm (zE z (sL i k) c) else (zR z k c).2.1) := fun k c hk hc ht => by
    rcases e_3 (zE z (sL i k) c) with g | ⟨g, g1⟩ | ⟨g, g1⟩
    · rw [← th hk hc, ((al hk hc).1 g).1] at ht
      exact absurd ht (by decide)
    · rw [if_pos g1]
      exact ((al hk hc).2.1 g g1).2.1
    · rw [if_neg (by rw [g1]; decide), ((al hk hc).2.2 g1).1]
  have hF : jF (kFl i z) := fun a k c ha hk hc => by
    rw [N] at hc
    by_cases e : a = i
    · subst e
      rcases e_3 (zE z (sL a k) c) with g | ⟨g, g1⟩ | ⟨g, g1⟩
      · have h9 := (al hk hc).1 g
        rw [h9.2.2.2, h9.2.2.1]
        exact ⟨fun q => ff q, fun q => ff q⟩
      · rw [((al hk hc).2.1 g g1).2.2.2]
        exact ⟨fun _ => rfl, fun _ => rfl⟩
      · rw [((al hk hc).2.2 g1).2]
        exact hA.1 a k c ha hk hc
    · rw [K a k c ha hk e]
      exact hA.1 a k c ha hk hc
  have hV : jV (kFl i z) := by
    refine ⟨fun a k c ha hk hc => ?_, fun k c hk hc => ?_⟩
    · rw [N] at hc
      rw [okK_N N]
      by_cases e : a = i
      · subst e
        rcases e_3 (zE z (sL a k) c) with g | ⟨g, g1⟩ | ⟨g, g1⟩
        · rw [((al hk hc).1 g).2.1]
          exact fun q => ff q
        · rw [((al hk hc).2.1 g g1).2.2.2]
          exact fun _ => hA.2.1.1 a k c ha hk hc g1
        · rw [((al hk hc).2.2 g1).2]
          exact hA.2.1.1 a k c ha hk hc
      · rw [K a k c ha hk e]
        exact hA.2.1.1 a k c ha hk hc
    · rw [N] at hc
      rw [okK_N N]
      intro ht
      rw [th hk hc] at ht
      rw [rr k c hk hc ht, rn k c hk hc ht]
      rcases e_3 (zE z (sL i k) c) with g | ⟨g, g1⟩ | ⟨g, g1⟩
      · rw [← th hk hc, ((al hk hc).1 g).1] at ht
        exact absurd ht (by decide)
      · rw [if_pos g1, if_pos g1]
        exact hA.2.1.1 i k c hi hk hc g1
      · rw [if_neg (by rw [g1]; decide), if_neg (by rw [g1]; decide)]
        refine hA.2.1.2 k c hk hc ?_
        rw [← th hk hc, ((al hk hc).2.2 g1).1] at ht
        exact ht
  have hW : jW (kFl i z) := fun k c q hk hc hq9 ht hr => by
    rw [N] at hc hq9
    rw [th hk hc] at ht
    rw [rr k c hk hc ht] at hr
    rw [th (show 1 - k < 2 by omega) hq9]
    exact fl_wh hA h hq hi hk hc hq9 ht hr
  have hNn : jN (kFl i z) := fun a k c ha hk hc hn9 => by
    rw [N] at hc
    by_cases e : a = i
    · subst e
      rcases e_3 (zE z (sL a k) c) with g | ⟨g, g1⟩ | ⟨g, g1⟩
      · have h9 : ((zE (kFl a z) (sL a k) c).1 && !(zE (kFl a z) (sL a k) c).2.2.1) = true := hn9
        rw [((al hk hc).1 g).2.1] at h9
        exact ff h9
      · rw [((al hk hc).2.1 g g1).2.2.2] at hn9
        have h9 : (true && !true) = true := hn9
        exact absurd h9 (by decide)
      · rw [((al hk hc).2.2 g1).2] at hn9
        rw [(fNew_1 hn9).1] at g1
        exact absurd g1 (by decide)
    · rw [K a k c ha hk e] at hn9
      have h9 := hA.2.2.2 a k c ha hk hc hn9
      have g1 := h9.2 i hi (fun r => e r.symm)
      rw [((al hk hc).2.2 g1).1]
      refine ⟨h9.1, fun a2 ha2 hne => ?_⟩
      by_cases e2 : a2 = i
      · rw [e2, ((al hk hc).2.2 g1).2]
        exact g1
      · rw [K a2 k c ha2 hk e2]
        exact h9.2 a2 ha2 hne
  refine ⟨⟨hF, hV, hW, hNn⟩, fun k c hk hc h3 => ?_, fun k c q hk hc hq9 _ hl hr => ?_, fun k c q hk hc hq9 _ hg => ?_⟩
  · rw [N] at hc
    rcases e_3 (zE z (sL i k) c) with g | ⟨g, g1⟩ | ⟨g, g1⟩
    · rw [((al hk hc).1 g).2.2.2] at h3
      exact ff h3
    · have h9 := (al hk hc).2.1 g g1
      exact ⟨h9.1, by rw [h9.2.2.2]⟩
    · rw [((al hk hc).2.2 g1).2] at h3
      rw [(hA.1 i k c hi hk hc).1 h3] at g1
      exact absurd g1 (by decide)
  · have hl1 := fLive_1 hl
    have hc9 : c < zN z k := by rw [N] at hc; exact hc
    have ht : (zR (kFl i z) k c).1 = true ∧ eRf (zE (kFl i z) (sL i k) c) = (zR (kFl i z) k c).2.2.1 := by
      rcases e_3 (zE z (sL i k) c) with g | ⟨g, g1⟩ | ⟨g, g1⟩
      · rw [((al hk hc9).1 g).2.1] at hl1
        exact ff hl1.1
      · have h9 := (al hk hc9).2.1 g g1
        exact ⟨h9.1, by rw [h9.2.2.2, h9.2.2.1]; rfl⟩
      · rw [((al hk hc9).2.2 g1).2, g1] at hl1
        exact ff hl1.1
    have h9 := hW k c q hk hc hq9 ht.1 (by rw [← ht.2]; exact hr)
    unfold tB
    rw [h9]
    have hg : (zE (kFl i z) (sL i (1 - k)) q).2.1 = false := by
      rw [N] at hq9
      have hk2 : 1 - k < 2 := by omega
      rcases e_3 (zE z (sL i (1 - k)) q) with g | ⟨g, g1⟩ | ⟨g, g1⟩
      · exact ((al hk2 hq9).1 g).2.2.1
      · rw [((al hk2 hq9).2.1 g g1).2.2.2]
      · rw [((al hk2 hq9).2.2 g1).2]
        exact g
    rw [hg, Bool.not_false, Bool.true_and, Bool.or_true]
  · rw [N] at hq9
    have hk2 : 1 - k < 2 := by omega
    rcases e_3 (zE z (sL i (1 - k)) q) with g | ⟨g, g1⟩ | ⟨g, g1⟩
    · rw [((al hk2 hq9).1 g).2.2.1] at hg
      exact ff hg
    · rw [((al hk2 hq9).2.1 g g1).2.2.2] at hg
      exact ff hg
    · rw [((al hk2 hq9).2.2 g1).2, g] at hg
      exact ff hg
/-- such a flush doesn't fail -/
theorem fl_ok {i : Nat} {z : cZ} (hA : jA z) (h : jI xN i z) (hq : cEq z) (hn : ∀ u, u < 8 → zN z u ≤ 1024) (hi : i < 3) : (kCla i z || kDan i z) = false := by
  have al : ∀ {p : Nat → Bool} {n : Nat}, (∀ j, j < n → p j = false) → anyN p n = false := fun {p n} hp => by
    induction n with
    | zero => rfl
    | succ n ih =>
      show (anyN p n || p n) = false
      rw [ih (fun j hj => hp j (by omega)), hp n (by omega)]
      rfl
  have cl : ∀ k j, k < 2 → j < zN z k → fClash (zE z (sL i k) j) (zR z k j) = false := fun k j hk hj => by
    have f := hA.1 i k j hi hk hj
    by_cases q : (fChg (zE z (sL i k) j) || (zE z (sL i k) j).2.1) = true
    · have h3 : (zE z (sL i k) j).2.2.1 = true := by
        rcases (Bool.or_eq_true _ _).mp q with r | r
        · exact fChg_3 r
        · exact f.2 r
      have s := h.1 k j hk hj h3
      exact fClash_t s.1 (congrArg (fun x => x.2.2) s.2).symm
    · show ((fChg (zE z (sL i k) j) || (zE z (sL i k) j).2.1) && _) = false
      rw [show (fChg (zE z (sL i k) j) || (zE z (sL i k) j).2.1) = false from by simpa using q]
      rfl
  have da : ∀ k j, k < 2 → j < zN z k → (thB i k (nI j) z && (!decide (rfB i k (nI j) z = -1)) && !thB i (1 - k) (rfB i k (nI j) z) z) = false := fun k j hk hj => by
    have hk2 : 1 - k < 2 := by omega
    have b1 := hn k (by omega)
    have b2 := hn (1 - k) (by omega)
    have ht : thB i k (nI j) z = tB i z k j := by
      rw [th_in hn hq hi hk, if_pos (inK_of b1 hj), nI_clamp (by omega)]
      rfl
    rw [ht]
    cases htb : tB i z k j
    · rfl
    · have hrf : rfB i k (nI j) z = (if (zE z (sL i k) j).1 = true then eRf (zE z (sL i k) j) else (zR z k j).2.2.1) := by
        unfold rfB
        rw [eV_in (by rw [hq i k hi hk]; exact b1) (by rw [hq i k hi hk]; exact hj), rV_in b1 hj]
        have f := hA.1 i k j hi hk hj
        cases h1 : (zE z (sL i k) j).1
        · rw [show fNew (zE z (sL i k) j) = false from by show ((zE z (sL i k) j).1 && _) = false; rw [h1]; rfl, show fChg (zE z (sL i k) j) = false from by
            cases q : fChg (zE z (sL i k) j)
            · rfl
            · rw [f.1 (fChg_3 q)] at h1
              exact absurd h1 (by decide)]
          rfl
        · cases h3 : (zE z (sL i k) j).2.2.1
          · rw [show fNew (zE z (sL i k) j) = true from by show ((zE z (sL i k) j).1 && !(zE z (sL i k) j).2.2.1) = true; rw [h1, h3]; rfl]
            rfl
          · cases hc : fChg (zE z (sL i k) j)
            · rw [show fNew (zE z (sL i k) j) = false from by show ((zE z (sL i k) j).1 && !(zE z (sL i k) j).2.2.1) = false; rw [h3, Bool.not_true, Bool.and_false]]
              have s := (h.1 k j hk hj h3).2
              have hc9 : ((zE z (sL i k) j).2.2.1 && (decide (eNm (zE z (sL i k) j) ≠ eSn (zE z (sL i k) j)) || decide (eRf (zE z (sL i k) j) ≠ eSr (zE z (sL i k) j)))) = false := hc
              rw [h3, Bool.true_and, Bool.or_eq_false_iff] at hc9
              have e2 : eRf (zE z (sL i k) j) = eSr (zE z (sL i k) j) := Classical.not_not.mp (of_decide_eq_false hc9.2)
              have e3 : eSr (zE z (sL i k) j) = (zR z k j).2.2.1 := congrArg (fun x => x.2.1) s
              rw [e2, e3]
              rfl
            · rw [Bool.or_true]
      rw [hrf]
      have hok : okK z k (if (zE z (sL i k) j).1 = true then eRf (zE z (sL i k) j) else (zR z k j).2.2.1) := by
        split
        · rename_i h1
          exact (hA.2.1.1 i k j hi hk hj h1).1
        · rename_i h1
          have h1 : (zE z (sL i k) j).1 = false := by simpa using h1
          refine (hA.2.1.2 k j hk hj ?_).1
          unfold tB at htb
          rw [show fNew (zE z (sL i k) j) = false from by show ((zE z (sL i k) j).1 && _) = false; rw [h1]; rfl, Bool.false_or, Bool.and_eq_true] at htb
          exact htb.2
      rcases hok with ⟨e, -⟩ | ⟨q, hq9, e⟩
      · rw [e]
        rfl
      · have h9 := fl_wh hA h hq hi hk hj hq9 htb e
        rw [e, th_in hn hq hi hk2, if_pos (inK_of b2 hq9), nI_clamp (by omega)]
        have h9 : (fNew (zE z (sL i (1 - k)) q) || (!(zE z (sL i (1 - k)) q).2.1 && (zR z (1 - k) q).1)) = true := h9
        rw [h9, Bool.not_true, Bool.and_false]
  unfold kCla kDan
  rw [hq i 0 hi (by decide), hq i 1 hi (by decide), al (fun j hj => cl 0 j (by decide) hj), al (fun j hj => cl 1 j (by decide) hj), al (fun j hj => da 0 j (by decide) hj), al (fun j hj => da 1 j (by decide) hj)]
  rfl
/-- nothing to write: a flush does nothing -/
theorem itr_id {F : Nat → cZ → cZ} {z : cZ} : ∀ {n : Nat}, (∀ j, j < n → F j z = z) → itr F n z = z := by
  intro n
  induction n with
  | zero => intro _; rfl
  | succ n ih =>
    intro h
    show F n (itr F n z) = z
    rw [ih (fun j hj => h j (by omega)), h n (by omega)]
theorem fl_id {i : Nat} {z : cZ} (hq : cEq z) (hi : i < 3) (h : ∀ k j, k < 2 → j < zN z k → fNew (zE z (sL i k) j) = false ∧ fChg (zE z (sL i k) j) = false ∧ (zE z (sL i k) j).2.1 = false) : kFl i z = z := by
  have c0 := hq i 0 hi (by decide)
  have c1 := hq i 1 hi (by decide)
  have e1 : kF1 i z = z := by
    unfold kF1
    rw [c0]
    exact itr_id (fun j hj => by unfold kIa; rw [(h 0 j (by decide) hj).1, if_neg (by decide)])
  have e2 : kF2 i z = z := by
    unfold kF2
    rw [c1]
    exact itr_id (fun j hj => by unfold kIb; rw [(h 1 j (by decide) hj).1, if_neg (by decide)])
  have e3 : ∀ k, k < 2 → kF3 i k z = z := fun k hk => by
    unfold kF3
    rw [hq i k hi hk]
    exact itr_id (fun j hj => by unfold kUp; rw [(h k j hk hj).2.1, if_neg (by decide)])
  have e4 : ∀ k, k < 2 → kF4 i k z = z := fun k hk => by
    unfold kF4
    rw [hq i k hi hk]
    exact itr_id (fun j hj => by unfold kDe; rw [(h k j hk hj).2.2, if_neg (by decide)])
  unfold kFl
  rw [e1, e2, e3 0 (by decide), e3 1 (by decide), e4 1 (by decide), e4 0 (by decide)]
