/-! P23: calls that don't throw -/
theorem xI_m {l : Launch} {y : MethodName} {ws : List Cond} {rm : Room} {G : gG} {dce sz : Nat} {M : gM} {av : List Value} {post post2 : Int32 → gM → Prop} {px : String → gM → Prop} {mc ms : Nat} (h : xI l y ws rm G dce sz M av post px mc ms) (hx : ∀ E M1, px E M1 → False) (hp : ∀ r M1, post r M1 → post2 r M1) : mI l y ws rm G dce sz M av post2 mc ms := by
  intro p e h1 h2 h3 s m args below h4 h5 h6 h7
  obtain ⟨n, o, hw, hr, he, hq⟩ := h p e h1 h2 h3 s m args below h4 h5 h6 h7
  refine ⟨n, o, hw, hr, he, ?_⟩
  rcases hq with ⟨⟨⟨r, u, a1, a2, a3⟩, hF⟩, hL⟩ | ⟨q, -, E, ce, L, ⟨u, -, hb, -⟩, -⟩
  · exact ⟨⟨⟨r, u, a1, hp r u a2, a3⟩, hF⟩, hL⟩
  · exact (hx _ _ hb.1).elim
theorem xV_m {l : Launch} {y : MethodName} {ws : List Cond} {rm : Room} {G : gG} {dce sz : Nat} {M : gM} {av : List Value} {post post2 : gM → Prop} {px : String → gM → Prop} {mc ms : Nat} (h : xV l y ws rm G dce sz M av post px mc ms) (hx : ∀ E M1, px E M1 → False) (hp : ∀ M1, post M1 → post2 M1) : mV l y ws rm G dce sz M av post2 mc ms := by
  intro p e h1 h2 h3 s m args below h4 h5 h6 h7
  obtain ⟨n, o, hw, hr, he, hq⟩ := h p e h1 h2 h3 s m args below h4 h5 h6 h7
  refine ⟨n, o, hw, hr, he, ?_⟩
  rcases hq with ⟨⟨⟨u, a1, a2, a3⟩, hF⟩, hL⟩ | ⟨q, -, E, ce, L, ⟨u, -, hb, -⟩, -⟩
  · exact ⟨⟨⟨u, a1, hp u a2, a3⟩, hF⟩, hL⟩
  · exact (hx _ _ hb.1).elim
theorem sOK_t {i : Nat} (hi : i < 3) : sOK (nI i) = true := by
  rcases (show i = 0 ∨ i = 1 ∨ i = 2 by omega) with rfl | rfl | rfl <;> decide
theorem kOK_t {k : Nat} (hk : k < 2) : kOK (nI k) = true := by
  rcases (show k = 0 ∨ k = 1 by omega) with rfl | rfl <;> decide
theorem aS_u {i a : Nat} (hi : i < 3) (h : aS (nI i) a) : a = i := nI_inj (by have := h.1; omega) (by omega) h.2.symm
theorem aK_u {k a : Nat} (hk : k < 2) (h : aK (nI k) a) : a = k := nI_inj (by have := h.1; omega) (by omega) h.2.symm
theorem bt {P : Prop} {b : Bool} (h1 : b = true) (h2 : b = false) : P := by
  rw [h1] at h2
  cases h2
/-- the law's world: the mapper, and the law's own four ints at ca -/
def LC (G : gG) (dce x : Nat) (ad : Nat → Nat) (ca : Nat) (f : Nat → Int32) (P : Nat → Prop) (n w : Nat) (M : gM) (y : cY) (z : cZ) : Prop := CW G dce x ad M y z ∧ jH P n w z ∧ M ca = some (oI G 4 f) ∧ ¬ cOwn ad y z dce ca
theorem LC.st {G : gG} {dce x : Nat} {ad : Nat → Nat} {ca : Nat} {f : Nat → Int32} {P P1 : Nat → Prop} {n w n1 w1 : Nat} {M M1 : gM} {y y1 : cY} {z z1 : cZ} (h : LC G dce x ad ca f P n w M y z) (hc : CW G dce x ad M1 y1 z1) (hs : cStep ad dce y z M y1 z1 M1) (hj : jH P1 n1 w1 z1) : LC G dce x ad ca f P1 n1 w1 M1 y1 z1 :=
  ⟨hc, hj, hs.1 _ _ h.2.2.1 h.2.2.2, fun q => (hs.2 _ q).elim h.2.2.2 (fun r => by rw [h.2.2.1] at r; cases r)⟩
theorem n_known (l : Launch) (G : gG) (dce sz : Nat) (M : gM) (hlt : l.stackTraces = false) (x : Nat) (ad : Nat → Nat) (ca : Nat) (f : Nat → Int32) (P : Nat → Prop) (n w : Nat) (y : cY) (z : cZ) (h : LC G dce x ad ca f P n w M y z) (hn : n ≤ 511) {i : Nat} (hi : i < 3) : mI l yX6_known wsX6_known ({ frames := 7, cells := 1, slots := 6, locals := 110 }) G dce sz M [.ref x, .int (nI i)] (fun r M' => r = nI (tot fLive i z) ∧ M' = M) (1) (6) :=
  xI_m (c_known l G dce sz M hlt x ad y z h.1 (nI i)) (fun E M1 q => bt (sOK_t hi) q.1.2) (fun r M1 ⟨⟨a, hs, hr⟩, hM⟩ => by
    have e := aS_u hi hs
    subst e
    exact ⟨hr, hM⟩)
theorem n_dirty (l : Launch) (G : gG) (dce sz : Nat) (M : gM) (hlt : l.stackTraces = false) (x : Nat) (ad : Nat → Nat) (ca : Nat) (f : Nat → Int32) (P : Nat → Prop) (n w : Nat) (y : cY) (z : cZ) (h : LC G dce x ad ca f P n w M y z) (hn : n ≤ 511) {i : Nat} (hi : i < 3) : mI l yX6_dirty wsX6_dirty ({ frames := 7, cells := 1, slots := 6, locals := 111 }) G dce sz M [.ref x, .int (nI i)] (fun r M' => r = nI (tot fDy i z) ∧ M' = M) (1) (6) :=
  xI_m (c_dirty l G dce sz M hlt x ad y z h.1 (nI i)) (fun E M1 q => bt (sOK_t hi) q.1.2) (fun r M1 ⟨⟨a, hs, hr⟩, hM⟩ => by
    have e := aS_u hi hs
    subst e
    exact ⟨hr, hM⟩)
theorem n_eV (l : Launch) (G : gG) (dce : Nat) (M : gM) (hlt : l.stackTraces = false) (x : Nat) (ad : Nat → Nat) (ca : Nat) (f : Nat → Int32) (P : Nat → Prop) (n w : Nat) (y : cY) (z : cZ) (h : LC G dce x ad ca f P n w M y z) (hn : n ≤ 511) {i k j : Nat} (hi : i < 3) (hk : k < 2) (hj : j < zN z k) : eV z i k (nI j) = zE z (sL i k) j := by
  have h8 := h.2.1.n8 (by omega) k (by omega)
  exact eV_in (by rw [h.2.1.1 i k hi hk]; exact h8) (by rw [h.2.1.1 i k hi hk]; exact hj)
theorem n_rV (l : Launch) (G : gG) (dce : Nat) (M : gM) (hlt : l.stackTraces = false) (x : Nat) (ad : Nat → Nat) (ca : Nat) (f : Nat → Int32) (P : Nat → Prop) (n w : Nat) (y : cY) (z : cZ) (h : LC G dce x ad ca f P n w M y z) (hn : n ≤ 511) {k j : Nat} (hk : k < 2) (hj : j < zN z k) : rV z k (nI j) = zR z k j := rV_in (h.2.1.n8 (by omega) k (by omega)) hj
theorem n_name (l : Launch) (G : gG) (dce sz : Nat) (M : gM) (hlt : l.stackTraces = false) (x : Nat) (ad : Nat → Nat) (ca : Nat) (f : Nat → Int32) (P : Nat → Prop) (n w : Nat) (y : cY) (z : cZ) (h : LC G dce x ad ca f P n w M y z) (hn : n ≤ 511) {i k j : Nat} (hi : i < 3) (hk : k < 2) (hj : j < zN z k) (hl : fLive (zE z (sL i k) j) = true) : mI l yX6_name wsX6_name ({ frames := 7, cells := 3, slots := 18, locals := 109 }) G dce sz M [.ref x, .int (nI i), .int (nI k), .int (nI j)] (fun r M' => r = eNm (zE z (sL i k) j) ∧ M' = M) (3) (18) :=
  xI_m (c_name l G dce sz M hlt x ad y z h.1 (nI i) (nI k) (nI j)) (fun E M1 qq => by
    rcases qq.1 with ⟨-, q⟩ | ⟨-, -, q⟩ | ⟨-, a, b, hs, hk9, q⟩
    · exact bt (sOK_t hi) q
    · exact bt (kOK_t hk) q
    · have e := aS_u hi hs
      have e2 := aK_u hk hk9
      subst e
      subst e2
      rw [n_eV l G dce M hlt x ad ca f P n w y z h hn hi hk hj] at q
      exact bt hl q) (fun r M1 ⟨⟨a, b, c, hs, hk9, hj9, _, hr⟩, hM⟩ => by
    have e := aS_u hi hs
    have e2 := aK_u hk hk9
    subst e
    subst e2
    have h8 := h.2.1.n8 (by omega) b (by omega)
    have h9 := hj9.1
    rw [h.2.1.1 a b hi hk] at h9
    have e3 : j = c := nI_inj (by omega) (by omega) hj9.2
    subst e3
    exact ⟨hr, hM⟩)
theorem n_reference (l : Launch) (G : gG) (dce sz : Nat) (M : gM) (hlt : l.stackTraces = false) (x : Nat) (ad : Nat → Nat) (ca : Nat) (f : Nat → Int32) (P : Nat → Prop) (n w : Nat) (y : cY) (z : cZ) (h : LC G dce x ad ca f P n w M y z) (hn : n ≤ 511) {i k j : Nat} (hi : i < 3) (hk : k < 2) (hj : j < zN z k) (hl : fLive (zE z (sL i k) j) = true) : mI l yX6_reference wsX6_reference ({ frames := 7, cells := 3, slots := 18, locals := 109 }) G dce sz M [.ref x, .int (nI i), .int (nI k), .int (nI j)] (fun r M' => r = eRf (zE z (sL i k) j) ∧ M' = M) (3) (18) :=
  xI_m (c_reference l G dce sz M hlt x ad y z h.1 (nI i) (nI k) (nI j)) (fun E M1 qq => by
    rcases qq.1 with ⟨-, q⟩ | ⟨-, -, q⟩ | ⟨-, a, b, hs, hk9, q⟩
    · exact bt (sOK_t hi) q
    · exact bt (kOK_t hk) q
    · have e := aS_u hi hs
      have e2 := aK_u hk hk9
      subst e
      subst e2
      rw [n_eV l G dce M hlt x ad ca f P n w y z h hn hi hk hj] at q
      exact bt hl q) (fun r M1 ⟨⟨a, b, c, hs, hk9, hj9, _, hr⟩, hM⟩ => by
    have e := aS_u hi hs
    have e2 := aK_u hk hk9
    subst e
    subst e2
    have h8 := h.2.1.n8 (by omega) b (by omega)
    have h9 := hj9.1
    rw [h.2.1.1 a b hi hk] at h9
    have e3 : j = c := nI_inj (by omega) (by omega) hj9.2
    subst e3
    exact ⟨hr, hM⟩)
theorem n_rows (l : Launch) (G : gG) (dce sz : Nat) (M : gM) (hlt : l.stackTraces = false) (x : Nat) (ad : Nat → Nat) (ca : Nat) (f : Nat → Int32) (P : Nat → Prop) (n w : Nat) (y : cY) (z : cZ) (h : LC G dce x ad ca f P n w M y z) (hn : n ≤ 511) {k : Nat} (hk : k < 2) : mI l yX6_rows wsX6_rows ({ frames := 7, cells := 1, slots := 6, locals := 107 }) G dce sz M [.ref x, .int (nI k)] (fun r M' => r = nI (cnt (fun j => (zR z k j).1) (zN z k)) ∧ M' = M) (1) (6) :=
  xI_m (c_rows l G dce sz M hlt x ad y z h.1 (nI k)) (fun E M1 q => bt (kOK_t hk) q.1.2) (fun r M1 ⟨⟨a, hs, hr⟩, hM⟩ => by
    have e := aK_u hk hs
    subst e
    exact ⟨hr, hM⟩)
theorem n_rowName (l : Launch) (G : gG) (dce sz : Nat) (M : gM) (hlt : l.stackTraces = false) (x : Nat) (ad : Nat → Nat) (ca : Nat) (f : Nat → Int32) (P : Nat → Prop) (n w : Nat) (y : cY) (z : cZ) (h : LC G dce x ad ca f P n w M y z) (hn : n ≤ 511) {k j : Nat} (hk : k < 2) (hj : j < zN z k) (ht : (zR z k j).1 = true) : mI l yX6_rowName wsX6_rowName ({ frames := 8, cells := 2, slots := 12, locals := 125 }) G dce sz M [.ref x, .int (nI k), .int (nI j)] (fun r M' => r = (zR z k j).2.1 ∧ M' = M) (2) (12) :=
  xI_m (c_rowName l G dce sz M hlt x ad y z h.1 (nI k) (nI j)) (fun E M1 qq => by
    rcases qq.1 with ⟨-, q⟩ | ⟨-, b, hk9, q⟩
    · exact bt (kOK_t hk) q
    · have e2 := aK_u hk hk9
      subst e2
      rw [n_rV l G dce M hlt x ad ca f P n w y z h hn hk hj] at q
      exact bt ht q) (fun r M1 ⟨⟨b, hk9, _, hr⟩, hM⟩ => by
    have e2 := aK_u hk hk9
    subst e2
    rw [n_rV l G dce M hlt x ad ca f P n w y z h hn hk hj] at hr
    exact ⟨hr, hM⟩)
theorem n_rowReference (l : Launch) (G : gG) (dce sz : Nat) (M : gM) (hlt : l.stackTraces = false) (x : Nat) (ad : Nat → Nat) (ca : Nat) (f : Nat → Int32) (P : Nat → Prop) (n w : Nat) (y : cY) (z : cZ) (h : LC G dce x ad ca f P n w M y z) (hn : n ≤ 511) {k j : Nat} (hk : k < 2) (hj : j < zN z k) (ht : (zR z k j).1 = true) : mI l yX6_rowReference wsX6_rowReference ({ frames := 8, cells := 2, slots := 12, locals := 125 }) G dce sz M [.ref x, .int (nI k), .int (nI j)] (fun r M' => r = (zR z k j).2.2.1 ∧ M' = M) (2) (12) :=
  xI_m (c_rowReference l G dce sz M hlt x ad y z h.1 (nI k) (nI j)) (fun E M1 qq => by
    rcases qq.1 with ⟨-, q⟩ | ⟨-, b, hk9, q⟩
    · exact bt (kOK_t hk) q
    · have e2 := aK_u hk hk9
      subst e2
      rw [n_rV l G dce M hlt x ad ca f P n w y z h hn hk hj] at q
      exact bt ht q) (fun r M1 ⟨⟨b, hk9, _, hr⟩, hM⟩ => by
    have e2 := aK_u hk hk9
    subst e2
    rw [n_rV l G dce M hlt x ad ca f P n w y z h hn hk hj] at hr
    exact ⟨hr, hM⟩)
theorem n_rowVersion (l : Launch) (G : gG) (dce sz : Nat) (M : gM) (hlt : l.stackTraces = false) (x : Nat) (ad : Nat → Nat) (ca : Nat) (f : Nat → Int32) (P : Nat → Prop) (n w : Nat) (y : cY) (z : cZ) (h : LC G dce x ad ca f P n w M y z) (hn : n ≤ 511) {k j : Nat} (hk : k < 2) (hj : j < zN z k) (ht : (zR z k j).1 = true) : mI l yX6_rowVersion wsX6_rowVersion ({ frames := 8, cells := 2, slots := 12, locals := 125 }) G dce sz M [.ref x, .int (nI k), .int (nI j)] (fun r M' => r = (zR z k j).2.2.2 ∧ M' = M) (2) (12) :=
  xI_m (c_rowVersion l G dce sz M hlt x ad y z h.1 (nI k) (nI j)) (fun E M1 qq => by
    rcases qq.1 with ⟨-, q⟩ | ⟨-, b, hk9, q⟩
    · exact bt (kOK_t hk) q
    · have e2 := aK_u hk hk9
      subst e2
      rw [n_rV l G dce M hlt x ad ca f P n w y z h hn hk hj] at q
      exact bt ht q) (fun r M1 ⟨⟨b, hk9, _, hr⟩, hM⟩ => by
    have e2 := aK_u hk hk9
    subst e2
    rw [n_rV l G dce M hlt x ad ca f P n w y z h hn hk hj] at hr
    exact ⟨hr, hM⟩)
theorem n_find (l : Launch) (G : gG) (dce sz : Nat) (M : gM) (hlt : l.stackTraces = false) (x : Nat) (ad : Nat → Nat) (ca : Nat) (f : Nat → Int32) (P : Nat → Prop) (n w : Nat) (y : cY) (z : cZ) (h : LC G dce x ad ca f P n w M y z) (hn : n ≤ 511) {i k : Nat} (hi : i < 3) (hk : k < 2) (ky : Int32) : mI l yX6_find wsX6_find ({ frames := 7, cells := 2, slots := 12, locals := 103 }) G dce sz M [.ref x, .int (nI i), .int (nI k), .int ky] (fun r M' => r = bI (fLive (eV (kFi i k ky z) i k ky)) ∧ ∃ y1, LC G dce x ad ca f P n w M' y1 (kFi i k ky z)) (2) (12) :=
  xI_m (c_find l G dce sz M hlt x ad y z h.1 h.2.1.1 (nI i) (nI k) ky) (fun E M1 qq => by
    rcases qq.1 with ⟨-, q⟩ | ⟨-, -, q⟩
    · exact bt (sOK_t hi) q
    · exact bt (kOK_t hk) q) (fun r M1 ⟨a, b, hs, hk9, hr, y1, _, hc, hst⟩ => by
    have e := aS_u hi hs
    have e2 := aK_u hk hk9
    subst e
    subst e2
    exact ⟨hr, y1, h.st hc hst (h.2.1.fi (by omega) hi hk ky)⟩)
theorem n_books (l : Launch) (G : gG) (dce sz : Nat) (M : gM) (hlt : l.stackTraces = false) (x : Nat) (ad : Nat → Nat) (ca : Nat) (f : Nat → Int32) (P : Nat → Prop) (n w : Nat) (y : cY) (z : cZ) (h : LC G dce x ad ca f P n w M y z) (hn : n ≤ 511) {i a : Nat} (hi : i < 3) (ha : a < zN z 0) (hl : fLive (zE z (sL i 0) a) = true) : mI l yX6_books wsX6_books ({ frames := 7, cells := 2, slots := 12, locals := 114 }) G dce sz M [.ref x, .int (nI i), .int (nI a)] (fun r M' => r = nI (cnt (fun j => fRefs (zE (itr (kLd i 1 (nI a)) (zN z 1) z) (sL i 1) j) (nI a)) (zN z (sL i 1))) ∧ ∃ y1, LC G dce x ad ca f P n w M' y1 (itr (kLd i 1 (nI a)) (zN z 1) z)) (2) (12) :=
  xI_m (c_books l G dce sz M hlt x ad y z h.1 h.2.1.1 (nI i) (nI a)) (fun E M1 qq => by
    rcases qq.1 with ⟨-, q⟩ | ⟨-, b, hs, q⟩
    · exact bt (sOK_t hi) q
    · have e := aS_u hi hs
      subst e
      rw [n_eV l G dce M hlt x ad ca f P n w y z h hn hi (by decide) ha] at q
      exact bt hl q) (fun r M1 ⟨b, hs, _, hr, y1, _, hc, hst⟩ => by
    have e := aS_u hi hs
    subst e
    exact ⟨hr, y1, h.st hc hst (h.2.1.lds hi (by decide) (nI a))⟩)
theorem n_clear (l : Launch) (G : gG) (dce sz : Nat) (M : gM) (hlt : l.stackTraces = false) (x : Nat) (ad : Nat → Nat) (ca : Nat) (f : Nat → Int32) (P : Nat → Prop) (n w : Nat) (y : cY) (z : cZ) (h : LC G dce x ad ca f P n w M y z) (hn : n ≤ 511) {i : Nat} (hi : i < 3) : mI l yX6_clear wsX6_clear ({ frames := 7, cells := 1, slots := 6, locals := 110 }) G dce sz M [.ref x, .int (nI i)] (fun r M' => r = nI (tot fLive i z) ∧ ∃ y1, LC G dce x ad ca f (fun a => P a ∨ a = i) n w M' y1 (kCr i z)) (1) (6) :=
  xI_m (c_clear l G dce sz M hlt x ad y z h.1 (nI i)) (fun E M1 q => bt (sOK_t hi) q.1.2) (fun r M1 ⟨a, hs, hr, y1, _, hc, hst⟩ => by
    have e := aS_u hi hs
    subst e
    exact ⟨hr, y1, h.st hc hst (h.2.1.cr hi)⟩)
theorem n_setName (l : Launch) (G : gG) (dce sz : Nat) (M : gM) (hlt : l.stackTraces = false) (x : Nat) (ad : Nat → Nat) (ca : Nat) (f : Nat → Int32) (P : Nat → Prop) (n w : Nat) (y : cY) (z : cZ) (h : LC G dce x ad ca f P n w M y z) (hn : n ≤ 511) {i k j : Nat} (hi : i < 3) (hk : k < 2) (hj : j < zN z k) (hl : fLive (zE z (sL i k) j) = true) {nm : Int32} (hm : nOK nm = true) : mV l yX6_setName wsX6_setName ({ frames := 7, cells := 4, slots := 24, locals := 109 }) G dce sz M [.ref x, .int (nI i), .int (nI k), .int (nI j), .int nm] (fun M' => ∃ y1, LC G dce x ad ca f P n (w + 2) M' y1 (kNm i k j nm z)) (4) (24) :=
  xV_m (c_setName l G dce sz M hlt x ad y z h.1 (nI i) (nI k) (nI j) nm) (fun E M1 qq => by
    rcases qq.1 with ⟨-, q⟩ | ⟨-, -, q | q⟩ | ⟨-, a, b, hs, hk9, -, q⟩
    · exact bt (sOK_t hi) q
    · exact bt (kOK_t hk) q
    · exact bt hm q
    · have e := aS_u hi hs
      have e2 := aK_u hk hk9
      subst e
      subst e2
      rw [n_eV l G dce M hlt x ad ca f P n w y z h hn hi hk hj] at q
      exact bt hl q) (fun M1 ⟨a, b, c, hs, hk9, hj9, _, _, y1, _, hc, hst⟩ => by
    have e := aS_u hi hs
    have e2 := aK_u hk hk9
    subst e
    subst e2
    have h8 := h.2.1.n8 (by omega) b (by omega)
    have h9 := hj9.1
    rw [h.2.1.1 a b hi hk] at h9
    have e3 : j = c := nI_inj (by omega) (by omega) hj9.2
    subst e3
    exact ⟨y1, h.st hc hst (h.2.1.nm hi hk hj hm)⟩)
theorem n_setReference (l : Launch) (G : gG) (dce sz : Nat) (M : gM) (hlt : l.stackTraces = false) (x : Nat) (ad : Nat → Nat) (ca : Nat) (f : Nat → Int32) (P : Nat → Prop) (n w : Nat) (y : cY) (z : cZ) (h : LC G dce x ad ca f P n w M y z) (hn : n ≤ 511) {i k j : Nat} (hi : i < 3) (hk : k < 2) (hj : j < zN z k) (hl : fLive (zE z (sL i k) j) = true) {rf9 : Int32} (hr : (rf9 = -1 ∧ k = 0) ∨ ∃ q, q < zN z (1 - k) ∧ rf9 = nI q ∧ fLive (zE z (sL i (1 - k)) q) = true) : mV l yX6_setReference wsX6_setReference ({ frames := 7, cells := 4, slots := 24, locals := 109 }) G dce sz M [.ref x, .int (nI i), .int (nI k), .int (nI j), .int rf9] (fun M' => ∃ y1, LC G dce x ad ca f P n (w + 2) M' y1 (kRf i k j rf9 z)) (4) (24) :=
  have hk2 : 1 - k < 2 := by omega
  have hr9 : ¬ (nI k = 1 ∧ rf9 = -1) := fun q => by
    rcases hr with ⟨-, r⟩ | ⟨p, hp, r, -⟩
    · rw [r] at q
      exact absurd q.1 (by decide)
    · have h8 := h.2.1.n8 (by omega) (1 - k) (by omega)
      rw [r] at q
      exact absurd q.2 (nI_nm1 (by omega))
  xV_m (c_setReference l G dce sz M hlt x ad y z h.1 (nI i) (nI k) (nI j) rf9) (fun E M1 qq => by
    rcases qq.1 with ⟨-, q⟩ | ⟨-, -, q | q⟩ | ⟨-, a, b, hs, hk9, -, q | ⟨-, q1, q⟩⟩
    · exact bt (sOK_t hi) q
    · exact bt (kOK_t hk) q
    · exact hr9 q
    · have e := aS_u hi hs
      have e2 := aK_u hk hk9
      subst e
      subst e2
      rw [n_eV l G dce M hlt x ad ca f P n w y z h hn hi hk hj] at q
      exact bt hl q
    · have e := aS_u hi hs
      have e2 := aK_u hk hk9
      subst e
      subst e2
      rcases hr with ⟨r, -⟩ | ⟨p, hp, r, hl2⟩
      · exact q1 r
      · rw [r, n_eV l G dce M hlt x ad ca f P n w y z h hn hi hk2 hp] at q
        exact bt hl2 q) (fun M1 ⟨a, b, c, hs, hk9, hj9, _, _, _, y1, _, hc, hst⟩ => by
    have e := aS_u hi hs
    have e2 := aK_u hk hk9
    subst e
    subst e2
    have h8 := h.2.1.n8 (by omega) b (by omega)
    have h9 := hj9.1
    rw [h.2.1.1 a b hi hk] at h9
    have e3 : j = c := nI_inj (by omega) (by omega) hj9.2
    subst e3
    exact ⟨y1, h.st hc hst (h.2.1.rf (by omega) hi hk hj hr)⟩)
theorem n_remove (l : Launch) (G : gG) (dce sz : Nat) (M : gM) (hlt : l.stackTraces = false) (x : Nat) (ad : Nat → Nat) (ca : Nat) (f : Nat → Int32) (P : Nat → Prop) (n w : Nat) (y : cY) (z : cZ) (h : LC G dce x ad ca f P n w M y z) (hn : n ≤ 511) {i k j : Nat} (hi : i < 3) (hk : k < 2) (hj : j < zN z k) (hl : fLive (zE z (sL i k) j) = true) : mI l yX6_remove wsX6_remove ({ frames := 7, cells := 3, slots := 18, locals := 162 }) G dce sz M [.ref x, .int (nI i), .int (nI k), .int (nI j)] (fun r M' => r = nI (if k = 0 then rmC i j z + 1 else 1) ∧ ∃ y1, LC G dce x ad ca f P n w M' y1 (if k = 0 then kRmA i j z else kRmB i j z)) (3) (18) :=
  xI_m (c_remove l G dce sz M hlt x ad y z h.1 h.2.1.1 (nI i) (nI k) (nI j)) (fun E M1 qq => by
    rcases qq.1 with ⟨-, q⟩ | ⟨-, -, q⟩ | ⟨-, a, b, hs, hk9, q⟩
    · exact bt (sOK_t hi) q
    · exact bt (kOK_t hk) q
    · have e := aS_u hi hs
      have e2 := aK_u hk hk9
      subst e
      subst e2
      rw [n_eV l G dce M hlt x ad ca f P n w y z h hn hi hk hj] at q
      exact bt hl q) (fun r M1 ⟨a, b, c, hs, hk9, hj9, _, hr⟩ => by
    have e := aS_u hi hs
    have e2 := aK_u hk hk9
    subst e
    subst e2
    have h8 := h.2.1.n8 (by omega) b (by omega)
    have h9 := hj9.1
    rw [h.2.1.1 a b hi hk] at h9
    have e3 : j = c := nI_inj (by omega) (by omega) hj9.2
    subst e3
    rcases hr with ⟨rfl, hr, y1, _, hc, hst⟩ | ⟨rfl, hr, y1, _, hc, hst⟩
    · rw [if_pos rfl, if_pos rfl]
      exact ⟨hr, y1, h.st hc hst (h.2.1.rmA (by omega) hi hj)⟩
    · rw [if_neg (by decide), if_neg (by decide)]
      exact ⟨hr, y1, h.st hc hst (h.2.1.rmB (by omega) hi hj)⟩)
theorem n_flush (l : Launch) (G : gG) (dce sz : Nat) (M : gM) (hlt : l.stackTraces = false) (x : Nat) (ad : Nat → Nat) (ca : Nat) (f : Nat → Int32) (P : Nat → Prop) (n w : Nat) (y : cY) (z : cZ) (h : LC G dce x ad ca f P n w M y z) (hn : n ≤ 511) (hw : w < 4096) {i : Nat} (hi : i < 3) (hp : P i) (kc ks : Nat) (hkc : zC (kFl i z) - zC z + 3 ≤ kc) (hks : 4 * (zC (kFl i z) - zC z) + 16 ≤ ks) : mI l yX6_flush wsX6_flush ({ frames := 7, cells := kc, slots := ks, locals := 163 }) G dce sz M [.ref x, .int (nI i)] (fun r M' => r = nI (zW (kFl i z) - zW z) ∧ ∃ y1, LC G dce x ad ca f (fun a => a = i ∨ (kFl i z = z ∧ P a)) n w M' y1 (kFl i z)) (kc) (ks) :=
  have hW := h.2.1.W
  xI_m (c_flush l G dce sz M hlt x ad y z h.1 h.2.1.1 (nI i) kc ks (fun a e ha _ _ => by
    have e2 : a = i := nI_inj (by omega) (by omega) e.symm
    subst e2
    exact hkc) (fun a e ha _ _ => by
    have e2 : a = i := nI_inj (by omega) (by omega) e.symm
    subst e2
    exact hks) (by omega) (by omega)) (fun E M1 qq => by
    rcases qq.1 with ⟨-, q⟩ | ⟨-, a, hs, q | q⟩
    · exact bt (sOK_t hi) q
    · omega
    · have e := aS_u hi hs
      subst e
      exact bt q (h.2.1.ok (by omega) hi hp)) (fun r M1 ⟨a, hs, _, _, hr, y1, _, hc, hst⟩ => by
    have e := aS_u hi hs
    subst e
    exact ⟨hr, y1, h.st hc hst (h.2.1.fl (by omega) (by omega) hi hp)⟩)
theorem n_makeAuthor (l : Launch) (G : gG) (dce sz : Nat) (M : gM) (hlt : l.stackTraces = false) (x : Nat) (ad : Nat → Nat) (ca : Nat) (f : Nat → Int32) (P : Nat → Prop) (n w : Nat) (y : cY) (z : cZ) (h : LC G dce x ad ca f P n w M y z) (hn : n ≤ 511) {i : Nat} (hi : i < 3) {nm : Int32} (hm : nOK nm = true) : mI l yX6_makeAuthor wsX6_makeAuthor ({ frames := 9, cells := 10, slots := 6184, locals := 228 }) G dce sz M [.ref x, .int (nI i), .int nm] (fun r M' => r = nI (zN z 0) ∧ ∃ y1, LC G dce x ad ca f P (n + 1) (w + 4) M' y1 (kMk i 0 nm (-1) z)) (10) (6184) :=
  have h0 := h.2.1.2.1 0 (by decide)
  xI_m (c_makeAuthor l G dce sz M hlt x ad y z h.1 h.2.1.1 (nI i) nm) (fun E M1 qq => by
    rcases qq.1 with ⟨-, q⟩ | ⟨-, -, q⟩
    · exact bt (sOK_t hi) q
    · exact bt hm q) (fun r M1 ⟨a, hs, _, hr⟩ => by
    have e := aS_u hi hs
    subst e
    rcases hr with ⟨-, hr, y1, hc, hst⟩ | ⟨q, -, -⟩
    · exact ⟨hr, y1, h.st hc hst (h.2.1.mk (by omega) hi (by decide) (Or.inl ⟨rfl, rfl⟩) hm)⟩
    · omega)
theorem n_makeBook (l : Launch) (G : gG) (dce sz : Nat) (M : gM) (hlt : l.stackTraces = false) (x : Nat) (ad : Nat → Nat) (ca : Nat) (f : Nat → Int32) (P : Nat → Prop) (n w : Nat) (y : cY) (z : cZ) (h : LC G dce x ad ca f P n w M y z) (hn : n ≤ 511) {i a : Nat} (hi : i < 3) (ha : a < zN z 0) (hl : fLive (zE z (sL i 0) a) = true) {nm : Int32} (hm : nOK nm = true) : mI l yX6_makeBook wsX6_makeBook ({ frames := 9, cells := 11, slots := 6190, locals := 228 }) G dce sz M [.ref x, .int (nI i), .int nm, .int (nI a)] (fun r M' => r = nI (zN z 1) ∧ ∃ y1, LC G dce x ad ca f P (n + 1) (w + 4) M' y1 (kMk i 1 nm (nI a) z)) (11) (6190) :=
  have h0 := h.2.1.2.1 1 (by decide)
  xI_m (c_makeBook l G dce sz M hlt x ad y z h.1 h.2.1.1 (nI i) nm (nI a)) (fun E M1 qq => by
    rcases qq.1 with ⟨-, q⟩ | ⟨-, -, q⟩ | ⟨-, -, b, hs, q⟩
    · exact bt (sOK_t hi) q
    · exact bt hm q
    · have e := aS_u hi hs
      subst e
      rw [n_eV l G dce M hlt x ad ca f P n w y z h hn hi (by decide) ha] at q
      exact bt hl q) (fun r M1 ⟨b, hs, _, _, hr⟩ => by
    have e := aS_u hi hs
    subst e
    rcases hr with ⟨-, hr, y1, hc, hst⟩ | ⟨q, -, -⟩
    · exact ⟨hr, y1, h.st hc hst (h.2.1.mk (by omega) hi (by decide) (Or.inr ⟨a, ha, rfl, hl⟩) hm)⟩
    · omega)
