/-! P23, PURE: what holds of the mapper's state between the law's steps -/
/-- flags: a snapshot only in the session, removed only with a snapshot -/
def jF (z : cZ) : Prop := ∀ i k j, i < 3 → k < 2 → j < zN z k → ((zE z (sL i k) j).2.2.1 = true → (zE z (sL i k) j).1 = true) ∧ ((zE z (sL i k) j).2.1 = true → (zE z (sL i k) j).2.2.1 = true)
/-- a reference is valid: none, or a key of the other kind; a book's is never none -/
def okK (z : cZ) (k : Nat) (r : Int32) : Prop := (r = -1 ∧ k = 0) ∨ ∃ q, q < zN z (1 - k) ∧ r = nI q
def jV (z : cZ) : Prop := (∀ i k j, i < 3 → k < 2 → j < zN z k → (zE z (sL i k) j).1 = true → okK z k (eRf (zE z (sL i k) j)) ∧ nOK (eNm (zE z (sL i k) j)) = true) ∧ ∀ k j, k < 2 → j < zN z k → (zR z k j).1 = true → okK z k (zR z k j).2.2.1 ∧ nOK (zR z k j).2.1 = true
/-- each row's reference leads to a row -/
def jW (z : cZ) : Prop := ∀ k j q, k < 2 → j < zN z k → q < zN z (1 - k) → (zR z k j).1 = true → (zR z k j).2.2.1 = nI q → (zR z (1 - k) q).1 = true
/-- a new object has no row and is in one session alone -/
def jN (z : cZ) : Prop := ∀ i k j, i < 3 → k < 2 → j < zN z k → fNew (zE z (sL i k) j) = true → (zR z k j).1 = false ∧ ∀ a, a < 3 → a ≠ i → (zE z (sL a k) j).1 = false
/-- a session whose snapshots are the rows -/
def jS (i : Nat) (z : cZ) : Prop := ∀ k j, k < 2 → j < zN z k → (zE z (sL i k) j).2.2.1 = true → (zR z k j).1 = true ∧ (zE z (sL i k) j).2.2.2.2.2 = (zR z k j).2
/-- there will be a row -/
def tB (i : Nat) (z : cZ) (k q : Nat) : Bool := fNew (zE z (sL i k) q) || (!(zE z (sL i k) q).2.1 && (zR z k q).1)
/-- live references lead to what will be there; rows that refer to a removed object are known; X: what is left out -/
def jC (X : Nat → Nat → Prop) (i : Nat) (z : cZ) : Prop := ∀ k j q, k < 2 → j < zN z k → q < zN z (1 - k) → ¬ X (1 - k) q → fLive (zE z (sL i k) j) = true → eRf (zE z (sL i k) j) = nI q → tB i z (1 - k) q = true
def jD (X : Nat → Nat → Prop) (i : Nat) (z : cZ) : Prop := ∀ k j q, k < 2 → j < zN z k → q < zN z (1 - k) → ¬ X (1 - k) q → (zE z (sL i (1 - k)) q).2.1 = true → (zR z k j).1 = true → (zR z k j).2.2.1 = nI q → (zE z (sL i k) j).1 = true
def xN : Nat → Nat → Prop := fun _ _ => False
def jI (X : Nat → Nat → Prop) (i : Nat) (z : cZ) : Prop := jS i z ∧ jC X i z ∧ jD X i z
/-- what holds of every session's state -/
def jA (z : cZ) : Prop := jF z ∧ jV z ∧ jW z ∧ jN z
theorem okK_N {z z1 : cZ} (h : zN z1 = zN z) {k : Nat} {r : Int32} : okK z1 k r ↔ okK z k r := by unfold okK; rw [h]
/-- an object of session i changes; its row doesn't -/
theorem jA.e {z z1 : cZ} {i k j : Nat} {e : vE} (h : jA z) (hi : i < 3) (hk : k < 2) (hj : j < zN z k) (u : zU z z1 i k j (zR z k j) e) (h1 : e.2.2.1 = true → e.1 = true) (h2 : e.2.1 = true → e.2.2.1 = true) (h3 : e.1 = true → okK z k (eRf e) ∧ nOK (eNm e) = true) (h4 : fNew e = true → fNew (zE z (sL i k) j) = true) (h5 : e.1 = true → (zE z (sL i k) j).1 = true ∨ (zR z k j).1 = true) : jA z1 := by
  obtain ⟨f, ⟨v1, v2⟩, w, n⟩ := h
  have hR : ∀ b c, b < 2 → zR z1 b c = zR z b c := fun b c hb => by
    rw [u.2.1 b c hb]
    split
    · rename_i q
      rw [q.1, q.2]
    · rfl
  refine ⟨fun a b c ha hb hc => ?_, ⟨fun a b c ha hb hc => ?_, fun b c hb hc => ?_⟩, fun b c q hb hc hq => ?_, fun a b c ha hb hc => ?_⟩
  · rw [u.1] at hc
    rw [u.2.2 a b c ha hb]
    split
    · exact ⟨h1, h2⟩
    · exact f a b c ha hb hc
  · rw [u.1] at hc
    rw [u.2.2 a b c ha hb, okK_N u.1]
    by_cases q : a = i ∧ b = k ∧ c = j
    · rw [if_pos q, q.2.1]
      exact h3
    · rw [if_neg q]
      exact v1 a b c ha hb hc
  · rw [u.1] at hc
    rw [hR b c hb, okK_N u.1]
    exact v2 b c hb hc
  · rw [u.1] at hc hq
    rw [hR b c hb, hR (1 - b) q (by omega)]
    exact w b c q hb hc hq
  · rw [u.1] at hc
    rw [u.2.2 a b c ha hb, hR b c hb]
    by_cases q : a = i ∧ b = k ∧ c = j
    · obtain ⟨rfl, rfl, rfl⟩ := q
      rw [if_pos ⟨rfl, rfl, rfl⟩]
      intro hn
      have h9 := n a b c ha hb hc (h4 hn)
      exact ⟨h9.1, fun a2 ha2 hne => by rw [u.2.2 a2 b c ha2 hb, if_neg (fun r => hne r.1)]; exact h9.2 a2 ha2 hne⟩
    · rw [if_neg q]
      intro hn
      have h9 := n a b c ha hb hc hn
      refine ⟨h9.1, fun a2 ha2 hne => ?_⟩
      rw [u.2.2 a2 b c ha2 hb]
      by_cases q2 : a2 = i ∧ b = k ∧ c = j
      · rw [if_pos q2]
        cases h6 : e.1
        · rfl
        · rcases h5 h6 with r | r
          · have := h9.2 a2 ha2 hne
            rw [q2.1, q2.2.1, q2.2.2, r] at this
            exact absurd this (by decide)
          · have := h9.1
            rw [q2.2.1, q2.2.2, r] at this
            exact absurd this (by decide)
      · rw [if_neg q2]
        exact h9.2 a2 ha2 hne
/-- the other sessions don't see it -/
theorem jI.o {X : Nat → Nat → Prop} {z z1 : cZ} {i k j a : Nat} {e : vE} (h : jI X a z) (ha : a < 3) (hne : a ≠ i) (u : zU z z1 i k j (zR z k j) e) : jI X a z1 := by
  have hR : ∀ b c, b < 2 → zR z1 b c = zR z b c := fun b c hb => by
    rw [u.2.1 b c hb]
    split
    · rename_i q
      rw [q.1, q.2]
    · rfl
  have hE : ∀ b c, b < 2 → zE z1 (sL a b) c = zE z (sL a b) c := fun b c hb => by rw [u.2.2 a b c ha hb, if_neg (fun q => hne q.1)]
  obtain ⟨s, c, d⟩ := h
  refine ⟨fun b x hb hx => ?_, fun b x q hb hx hq => ?_, fun b x q hb hx hq => ?_⟩
  · rw [u.1] at hx
    rw [hE b x hb, hR b x hb]
    exact s b x hb hx
  · rw [u.1] at hx hq
    unfold tB
    rw [hE b x hb, hE (1 - b) q (by omega), hR (1 - b) q (by omega)]
    exact c b x q hb hx hq
  · rw [u.1] at hx hq
    rw [hE (1 - b) q (by omega), hR b x hb, hE b x hb]
    exact d b x q hb hx hq
theorem tB_live {i k q : Nat} {z : cZ} (hs : jS i z) (hk : k < 2) (hq : q < zN z k) (h : fLive (zE z (sL i k) q) = true) : tB i z k q = true := by
  have hl := fLive_1 h
  unfold tB
  cases h3 : (zE z (sL i k) q).2.2.1
  · rw [show fNew (zE z (sL i k) q) = true from by show ((zE z (sL i k) q).1 && !(zE z (sL i k) q).2.2.1) = true; rw [hl.1, h3]; rfl]
    rfl
  · rw [hl.2, (hs k q hk hq h3).1, Bool.not_false, Bool.true_and, Bool.or_true]
/-- session i's own: an object of it changes, and stays as it was for those that refer to it -/
theorem jI.e {X : Nat → Nat → Prop} {z z1 : cZ} {i k j : Nat} {e : vE} (h : jI X i z) (hi : i < 3) (hk : k < 2) (hj : j < zN z k) (u : zU z z1 i k j (zR z k j) e) (h1 : e.2.2.1 = true → (zR z k j).1 = true ∧ e.2.2.2.2.2 = (zR z k j).2) (h2 : fLive e = true → ∀ q, q < zN z (1 - k) → ¬ X (1 - k) q → eRf e = nI q → tB i z (1 - k) q = true) (h3 : ¬ X k j → tB i z k j = true → (fNew e || (!e.2.1 && (zR z k j).1)) = true) (h4 : ¬ X k j → e.2.1 = true → (zE z (sL i k) j).2.1 = true) (h5 : (zE z (sL i k) j).1 = true → (zR z k j).1 = true → e.1 = true) : jI X i z1 := by
  have hR : ∀ b c, b < 2 → zR z1 b c = zR z b c := fun b c hb => by
    rw [u.2.1 b c hb]
    split
    · rename_i q
      rw [q.1, q.2]
    · rfl
  have hT : ∀ b q, b < 2 → ¬ X b q → tB i z b q = true → tB i z1 b q = true := fun b q hb hx ht => by
    unfold tB
    rw [u.2.2 i b q hi hb, hR b q hb]
    by_cases r : b = k ∧ q = j
    · obtain ⟨rfl, rfl⟩ := r
      rw [if_pos ⟨rfl, rfl, rfl⟩]
      exact h3 hx ht
    · rw [if_neg (fun r2 => r r2.2)]
      exact ht
  obtain ⟨s, c, d⟩ := h
  refine ⟨fun b x hb hx => ?_, fun b x q hb hx hq hX => ?_, fun b x q hb hx hq hX => ?_⟩
  · rw [u.1] at hx
    rw [u.2.2 i b x hi hb, hR b x hb]
    by_cases r : b = k ∧ x = j
    · rw [if_pos ⟨rfl, r⟩, r.1, r.2]
      exact h1
    · rw [if_neg (fun r2 => r r2.2)]
      exact s b x hb hx
  · rw [u.1] at hx hq
    rw [u.2.2 i b x hi hb]
    intro hl hr
    refine hT (1 - b) q (by omega) hX ?_
    by_cases r : b = k ∧ x = j
    · rw [if_pos ⟨rfl, r⟩] at hl hr
      rw [r.1] at hX hq ⊢
      exact h2 hl q hq hX hr
    · rw [if_neg (fun r2 => r r2.2)] at hl hr
      exact c b x q hb hx hq hX hl hr
  · rw [u.1] at hx hq
    rw [hR b x hb]
    intro hg ht hr
    have hg2 : (zE z (sL i (1 - b)) q).2.1 = true := by
      rw [u.2.2 i (1 - b) q hi (by omega)] at hg
      by_cases r : 1 - b = k ∧ q = j
      · rw [if_pos ⟨rfl, r⟩] at hg
        rw [r.1] at hX
        rw [r.2] at hX
        rw [r.1, r.2]
        exact h4 hX hg
      · rw [if_neg (fun r2 => r r2.2)] at hg
        exact hg
    have h9 := d b x q hb hx hq hX hg2 ht hr
    rw [u.2.2 i b x hi hb]
    by_cases r : b = k ∧ x = j
    · rw [if_pos ⟨rfl, r⟩]
      rw [r.1, r.2] at h9 ht
      exact h5 h9 ht
    · rw [if_neg (fun r2 => r r2.2)]
      exact h9
/-- loading -/
theorem jA.ld {z : cZ} (h : jA z) {i k j : Nat} (hi : i < 3) (hk : k < 2) (hj : j < zN z k) (h0 : (zE z (sL i k) j).1 = false) (ht : (zR z k j).1 = true) : jA (sE z (sL i k) j (fLoad (zE z (sL i k) j) (zR z k j))) := by
  have hf := h.1 i k j hi hk hj
  refine h.e hi hk hj (zU_E hk) (fun _ => rfl) (fun _ => rfl) (fun _ => h.2.1.2 k j hk hj ht) (fun q => ?_) (fun _ => Or.inr ht)
  have q9 : (true && !true) = true := q
  exact absurd q9 (by decide)
theorem jI.ld {X : Nat → Nat → Prop} {z : cZ} (hA : jA z) {i k j : Nat} (h : jI X i z) (hi : i < 3) (hk : k < 2) (hj : j < zN z k) (h0 : (zE z (sL i k) j).1 = false) (ht : (zR z k j).1 = true) : jI X i (sE z (sL i k) j (fLoad (zE z (sL i k) j) (zR z k j))) := by
  have hf := hA.1 i k j hi hk hj
  have h3 : (zE z (sL i k) j).2.2.1 = false := by
    cases q : (zE z (sL i k) j).2.2.1
    · rfl
    · rw [hf.1 q] at h0
      exact absurd h0 (by decide)
  have h2 : (zE z (sL i k) j).2.1 = false := by
    cases q : (zE z (sL i k) j).2.1
    · rfl
    · rw [hf.2 q] at h3
      exact absurd h3 (by decide)
  refine h.e hi hk hj (zU_E hk) (fun _ => ⟨ht, rfl⟩) (fun _ q hq hX hr => ?_) (fun _ _ => ?_) (fun _ q => ?_) (fun _ _ => rfl)
  · -- the reference's row is there, and isn't removed: or this object would be known
    have hr2 : (zR z k j).2.2.1 = nI q := hr
    have hw := hA.2.2.1 k j q hk hj hq ht hr2
    unfold tB
    rw [hw]
    cases hg : (zE z (sL i (1 - k)) q).2.1
    · rw [Bool.not_false, Bool.true_and, Bool.or_true]
    · rw [h.2.2 k j q hk hj hq hX hg ht hr2] at h0
      exact absurd h0 (by decide)
  · show (_ || (!(zE z (sL i k) j).2.1 && (zR z k j).1)) = true
    rw [h2, ht, Bool.not_false, Bool.true_and, Bool.or_true]
  · have q9 : (zE z (sL i k) j).2.1 = true := q
    rw [h2] at q9
    exact absurd q9 (by decide)
