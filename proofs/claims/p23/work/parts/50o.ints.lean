/-! P23, PURE: differences of counts -/
theorem i32_as (a b : Int32) : a + (b - a) = b := by
  rw [Int32.add_comm]
  exact Int32.sub_add_cancel b a
theorem told_3 {a b : Nat} (h1 : a ≤ b + 1) (h2 : b ≤ a + 1) : nI a - nI b = 0 ∨ nI a - nI b = 1 ∨ nI a - nI b = -1 := by
  rcases (show a = b ∨ a = b + 1 ∨ b = a + 1 by omega) with e | e | e
  · rw [e]
    exact Or.inl (Int32.sub_self _)
  · rw [e]
    exact Or.inr (Or.inl (nI_sub1 b))
  · rw [e]
    have h9 : nI (a + 1) + (nI a - nI (a + 1)) = nI (a + 1) + (-1) := by rw [i32_as, ← Int32.sub_eq_add_neg, nI_pred]
    exact Or.inr (Or.inr ((Int32.add_right_inj _).mp h9))
theorem nI_1s {k : Nat} (hk : k < 2) : (1 : Int32) - nI k = nI (1 - k) := by
  rcases (show k = 0 ∨ k = 1 by omega) with rfl | rfl <;> decide
/-- the law's own ints are written -/
theorem LC.c {G : gG} {dce x : Nat} {ad : Nat → Nat} {ca : Nat} {f f1 : Nat → Int32} {P : Nat → Prop} {n w : Nat} {M M1 : gM} {y : cY} {z : cZ} (h : LC G dce x ad ca f P n w M y z) (e : M1 = mu M ca (oI G 4 f1)) : LC G dce x ad ca f1 P n w M1 y z := by
  obtain ⟨h1, h2, h3, h4⟩ := h
  have ne : ∀ b v, M b = some v → v ≠ oI G 4 f → M1 b = some v := fun b v hb hv => by
    rw [e]
    exact mu_g hb (fun q => by
      rw [q, h3] at hb
      exact hv (Option.some.inj hb).symm)
  have ow : ∀ b v, M b = some v → cOwn ad y z dce b → M1 b = some v := fun b v hb hv => by
    rw [e]
    exact mu_g hb (fun q => h4 (q ▸ hv))
  have h8 : cOwn ad y z dce (yX y 8) := Or.inr (Or.inl ⟨8, by decide, rfl, fun q => absurd q (by decide)⟩)
  have h9 : cOwn ad y z dce (yX y 9) := Or.inr (Or.inl ⟨9, by decide, rfl, fun q => absurd q (by decide)⟩)
  refine ⟨h1.fr (fun b k fs hb _ => ne b _ hb (by simp [oI])) (fun b c n9 g hb => ne b _ hb (by simp [oI])) ?_ ?_, h2, by rw [e]; exact mu_s _ _ _, h4⟩
  · exact fun v hv => ow _ v hv h8
  · exact fun v hv => ow _ v hv h9
