theorem wMetW {l : Launch} {y : MethodName} {ws ws' : List Cond} {rm : Room} {Qc : (Nat → Prop) → Array Value → State → Outcome → State → Prop} {mc ms : Nat} {cc : ByteArray} {maxL : Nat} {ret : Option FieldType} {hh : List (Nat × Nat × Nat × Nat)} {G : gG} {dce sz : Nat} {M : gM} {av : List Value}
    (hy : plainName y.cls = true) (hw : ws = Cond.codeWith y cc maxL ret hh :: ws') (hn : (lg_sl av).length ≤ maxL)
    (body : ∀ (p : Program) (e : Env) (s : State) (m : MethodId) (below : List Frame) (meth : Method) (c : Code) (A : Nat → Prop) (ls : Array Slot), cX p s m meth c cc maxL ret ws y.cls av.toArray → c.exceptionTable.toList = tableOf hh → meth.name = y.name → wd G A M s.heap → wK G s → wZ dce A s s.heap → (∀ q : Nat, s.heap.size ≤ q → A q) → va_S A s.heap s.heap [] → sz = s.heap.size → A = wA M sz → lv_has ls maxL (lv_args 0 av) →
      W p l e rm s m av.toArray below meth c s.heap [] 0 0 (MQ below (Qc A) av.toArray s mc ms A) (F0 m 0 ls [])) : Met l y ws rm (va_Pc av (wB G dce sz M)) (Qc (wA M sz)) mc ms (wA M sz) := by
  refine va_MetW (cc := cc) (maxL := maxL) (ret := ret) (hh := hh) hy hw ?_
  intro p e s m args below meth c s₁ B hml hv
  obtain ⟨rfl, rfl, hD, hK, hZ⟩ := hv
  have htab := vx_table (x := y) B (atoms_spec (ws := ws) B.pre _ (by rw [hw]; exact List.mem_cons_self))
  rw [lg_entry_eq]
  exact body p e s m below meth c (wA M s.heap.size) _ ⟨B.exec, B.bytes, B.returns, atoms_spec (ws := ws) B.pre, findClass_of_methodNamed B.named, B.notSynchronized, hml⟩ htab (name_of_methodNamed B.named B.method).1 (hD.weaken (fun q e h => Or.inl ⟨e, h⟩)) hK hZ (fun q h => Or.inr h) va_S.rf rfl rfl (lv_entry av hn)
def cP_makeAuthor (z : cZ) (si nm : Int32) (r : Int32) (z1 : cZ) : Prop := ∃ i, aS si i ∧ nOK nm = true ∧ ((zN z 0 < 512 ∧ r = nI (zN z 0) ∧ z1 = kMk i 0 nm (-1) z) ∨ (512 ≤ zN z 0 ∧ r = -1 ∧ z1 = z))
def cX_makeAuthor (z : cZ) (si nm : Int32) (k : Int32) : Prop := (k = 1 ∧ sOK si = false) ∨ (k = 2 ∧ (sOK si = true ∧ nOK nm = false))
def cO_makeAuthor (z : cZ) (si nm : Int32) (k : Int32) (v : Int64) (z1 : cZ) : Prop := (k = 0 ∧ ∃ r : Int32, v = r.toInt64 ∧ cP_makeAuthor z si nm r z1) ∨ (cX_makeAuthor z si nm k ∧ z1 = z)
def cP_makeBook (z : cZ) (si nm au : Int32) (r : Int32) (z1 : cZ) : Prop := ∃ i, aS si i ∧ nOK nm = true ∧ fLive (eV z i 0 au) = true ∧ ((zN z 1 < 512 ∧ r = nI (zN z 1) ∧ z1 = kMk i 1 nm au z) ∨ (512 ≤ zN z 1 ∧ r = -1 ∧ z1 = z))
def cX_makeBook (z : cZ) (si nm au : Int32) (k : Int32) : Prop := (k = 1 ∧ sOK si = false) ∨ (k = 2 ∧ (sOK si = true ∧ nOK nm = false)) ∨ (k = 3 ∧ (nOK nm = true ∧ ∃ i, aS si i ∧ fLive (eV z i 0 au) = false))
def cO_makeBook (z : cZ) (si nm au : Int32) (k : Int32) (v : Int64) (z1 : cZ) : Prop := (k = 0 ∧ ∃ r : Int32, v = r.toInt64 ∧ cP_makeBook z si nm au r z1) ∨ (cX_makeBook z si nm au k ∧ z1 = z)
def cP_find (z : cZ) (si kd ky : Int32) (r : Int32) (z1 : cZ) : Prop := ∃ i k, aS si i ∧ aK kd k ∧ r = bI (fLive (eV (kFi i k ky z) i k ky)) ∧ z1 = kFi i k ky z
def cX_find (z : cZ) (si kd ky : Int32) (k : Int32) : Prop := (k = 1 ∧ sOK si = false) ∨ (k = 2 ∧ (sOK si = true ∧ kOK kd = false))
def cO_find (z : cZ) (si kd ky : Int32) (k : Int32) (v : Int64) (z1 : cZ) : Prop := (k = 0 ∧ ∃ r : Int32, v = r.toInt64 ∧ cP_find z si kd ky r z1) ∨ (cX_find z si kd ky k ∧ z1 = z)
def cP_books (z : cZ) (si au : Int32) (r : Int32) (z1 : cZ) : Prop := ∃ i, aS si i ∧ fLive (eV z i 0 au) = true ∧ r = nI (cnt (fun j => fRefs (zE (itr (kLd i 1 au) (zN z 1) z) (sL i 1) j) au) (zN z (sL i 1))) ∧ z1 = itr (kLd i 1 au) (zN z 1) z
def cX_books (z : cZ) (si au : Int32) (k : Int32) : Prop := (k = 1 ∧ sOK si = false) ∨ (k = 2 ∧ ∃ i, aS si i ∧ fLive (eV z i 0 au) = false)
def cO_books (z : cZ) (si au : Int32) (k : Int32) (v : Int64) (z1 : cZ) : Prop := (k = 0 ∧ ∃ r : Int32, v = r.toInt64 ∧ cP_books z si au r z1) ∨ (cX_books z si au k ∧ z1 = z)
def cP_setName (z : cZ) (si kd ky nm : Int32) (z1 : cZ) : Prop := ∃ i k j, aS si i ∧ aK kd k ∧ (j < zN z (sL i k) ∧ ky = nI j) ∧ fLive (zE z (sL i k) j) = true ∧ nOK nm = true ∧ z1 = kNm i k j nm z
def cX_setName (z : cZ) (si kd ky nm : Int32) (k : Int32) : Prop := (k = 1 ∧ sOK si = false) ∨ (k = 2 ∧ (sOK si = true ∧ (kOK kd = false ∨ nOK nm = false))) ∨ (k = 3 ∧ ∃ i k, aS si i ∧ aK kd k ∧ nOK nm = true ∧ fLive (eV z i k ky) = false)
def cO_setName (z : cZ) (si kd ky nm : Int32) (k : Int32) (z1 : cZ) : Prop := (k = 0 ∧ cP_setName z si kd ky nm z1) ∨ (cX_setName z si kd ky nm k ∧ z1 = z)
def cP_setReference (z : cZ) (si kd ky rf : Int32) (z1 : cZ) : Prop := ∃ i k j, aS si i ∧ aK kd k ∧ (j < zN z (sL i k) ∧ ky = nI j) ∧ fLive (zE z (sL i k) j) = true ∧ ¬ (kd = 1 ∧ rf = -1) ∧ (rf = -1 ∨ fLive (eV z i (1 - k) rf) = true) ∧ z1 = kRf i k j rf z
def cX_setReference (z : cZ) (si kd ky rf : Int32) (k : Int32) : Prop := (k = 1 ∧ sOK si = false) ∨ (k = 2 ∧ (sOK si = true ∧ (kOK kd = false ∨ (kd = 1 ∧ rf = -1)))) ∨ (k = 3 ∧ ∃ i k, aS si i ∧ aK kd k ∧ ¬ (kd = 1 ∧ rf = -1) ∧ (fLive (eV z i k ky) = false ∨ (fLive (eV z i k ky) = true ∧ rf ≠ -1 ∧ fLive (eV z i (1 - k) rf) = false)))
def cO_setReference (z : cZ) (si kd ky rf : Int32) (k : Int32) (z1 : cZ) : Prop := (k = 0 ∧ cP_setReference z si kd ky rf z1) ∨ (cX_setReference z si kd ky rf k ∧ z1 = z)
def cP_remove (z : cZ) (si kd ky : Int32) (r : Int32) (z1 : cZ) : Prop := ∃ i k j, aS si i ∧ aK kd k ∧ (j < zN z (sL i k) ∧ ky = nI j) ∧ fLive (zE z (sL i k) j) = true ∧ ((k = 0 ∧ r = nI (cnt (fun j9 => fRefs (zE (itr (kRb i (nI j)) j9 (kRm0 i j z)) (sL i 1) j9) (nI j)) (zN z (sL i 1)) + 1) ∧ z1 = kRmA i j z) ∨ (k = 1 ∧ r = 1 ∧ z1 = kRmB i j z))
def cX_remove (z : cZ) (si kd ky : Int32) (k : Int32) : Prop := (k = 1 ∧ sOK si = false) ∨ (k = 2 ∧ (sOK si = true ∧ kOK kd = false)) ∨ (k = 3 ∧ ∃ i k, aS si i ∧ aK kd k ∧ fLive (eV z i k ky) = false)
def cO_remove (z : cZ) (si kd ky : Int32) (k : Int32) (v : Int64) (z1 : cZ) : Prop := (k = 0 ∧ ∃ r : Int32, v = r.toInt64 ∧ cP_remove z si kd ky r z1) ∨ (cX_remove z si kd ky k ∧ z1 = z)
def cP_name (z : cZ) (si kd ky : Int32) (r : Int32) (z1 : cZ) : Prop := ∃ i k j, aS si i ∧ aK kd k ∧ (j < zN z (sL i k) ∧ ky = nI j) ∧ fLive (zE z (sL i k) j) = true ∧ r = eNm (zE z (sL i k) j) ∧ z1 = z
def cX_name (z : cZ) (si kd ky : Int32) (k : Int32) : Prop := (k = 1 ∧ sOK si = false) ∨ (k = 2 ∧ (sOK si = true ∧ kOK kd = false)) ∨ (k = 3 ∧ ∃ i k, aS si i ∧ aK kd k ∧ fLive (eV z i k ky) = false)
def cO_name (z : cZ) (si kd ky : Int32) (k : Int32) (v : Int64) (z1 : cZ) : Prop := (k = 0 ∧ ∃ r : Int32, v = r.toInt64 ∧ cP_name z si kd ky r z1) ∨ (cX_name z si kd ky k ∧ z1 = z)
def cP_reference (z : cZ) (si kd ky : Int32) (r : Int32) (z1 : cZ) : Prop := ∃ i k j, aS si i ∧ aK kd k ∧ (j < zN z (sL i k) ∧ ky = nI j) ∧ fLive (zE z (sL i k) j) = true ∧ r = eRf (zE z (sL i k) j) ∧ z1 = z
def cX_reference (z : cZ) (si kd ky : Int32) (k : Int32) : Prop := (k = 1 ∧ sOK si = false) ∨ (k = 2 ∧ (sOK si = true ∧ kOK kd = false)) ∨ (k = 3 ∧ ∃ i k, aS si i ∧ aK kd k ∧ fLive (eV z i k ky) = false)
def cO_reference (z : cZ) (si kd ky : Int32) (k : Int32) (v : Int64) (z1 : cZ) : Prop := (k = 0 ∧ ∃ r : Int32, v = r.toInt64 ∧ cP_reference z si kd ky r z1) ∨ (cX_reference z si kd ky k ∧ z1 = z)
def cP_known (z : cZ) (si : Int32) (r : Int32) (z1 : cZ) : Prop := ∃ i, aS si i ∧ r = nI ((cnt (fun j => fLive (zE z (sL i 0) j)) (zN z (sL i 0))) + (cnt (fun j => fLive (zE z (sL i 1) j)) (zN z (sL i 1)))) ∧ z1 = z
def cX_known (z : cZ) (si : Int32) (k : Int32) : Prop := (k = 1 ∧ sOK si = false)
def cO_known (z : cZ) (si : Int32) (k : Int32) (v : Int64) (z1 : cZ) : Prop := (k = 0 ∧ ∃ r : Int32, v = r.toInt64 ∧ cP_known z si r z1) ∨ (cX_known z si k ∧ z1 = z)
def cP_dirty (z : cZ) (si : Int32) (r : Int32) (z1 : cZ) : Prop := ∃ i, aS si i ∧ r = nI ((cnt (fun j => (fLive (zE z (sL i 0) j) && fChg (zE z (sL i 0) j))) (zN z (sL i 0))) + (cnt (fun j => (fLive (zE z (sL i 1) j) && fChg (zE z (sL i 1) j))) (zN z (sL i 1)))) ∧ z1 = z
def cX_dirty (z : cZ) (si : Int32) (k : Int32) : Prop := (k = 1 ∧ sOK si = false)
def cO_dirty (z : cZ) (si : Int32) (k : Int32) (v : Int64) (z1 : cZ) : Prop := (k = 0 ∧ ∃ r : Int32, v = r.toInt64 ∧ cP_dirty z si r z1) ∨ (cX_dirty z si k ∧ z1 = z)
def cP_flush (z : cZ) (si : Int32) (r : Int32) (z1 : cZ) : Prop := ∃ i, aS si i ∧ zW z < 4096 ∧ (kCla i z || kDan i z) = false ∧ r = nI (zW (kFl i z) - zW z) ∧ z1 = kFl i z
def cX_flush (z : cZ) (si : Int32) (k : Int32) : Prop := (k = 1 ∧ sOK si = false) ∨ (k = 2 ∧ ∃ i, aS si i ∧ (4096 ≤ zW z ∨ (kCla i z || kDan i z) = true))
def cO_flush (z : cZ) (si : Int32) (k : Int32) (v : Int64) (z1 : cZ) : Prop := (k = 0 ∧ ∃ r : Int32, v = r.toInt64 ∧ cP_flush z si r z1) ∨ (cX_flush z si k ∧ z1 = z)
def cP_clear (z : cZ) (si : Int32) (r : Int32) (z1 : cZ) : Prop := ∃ i, aS si i ∧ r = nI ((cnt (fun j => fLive (zE z (sL i 0) j)) (zN z (sL i 0))) + (cnt (fun j => fLive (zE z (sL i 1) j)) (zN z (sL i 1)))) ∧ z1 = itr (kFg i 1) (zN z (sL i 1)) (itr (kFg i 0) (zN z (sL i 0)) z)
def cX_clear (z : cZ) (si : Int32) (k : Int32) : Prop := (k = 1 ∧ sOK si = false)
def cO_clear (z : cZ) (si : Int32) (k : Int32) (v : Int64) (z1 : cZ) : Prop := (k = 0 ∧ ∃ r : Int32, v = r.toInt64 ∧ cP_clear z si r z1) ∨ (cX_clear z si k ∧ z1 = z)
def cP_rows (z : cZ) (kd : Int32) (r : Int32) (z1 : cZ) : Prop := ∃ k, aK kd k ∧ r = nI (cnt (fun j => (zR z k j).1) (zN z k)) ∧ z1 = z
def cX_rows (z : cZ) (kd : Int32) (k : Int32) : Prop := (k = 1 ∧ kOK kd = false)
def cO_rows (z : cZ) (kd : Int32) (k : Int32) (v : Int64) (z1 : cZ) : Prop := (k = 0 ∧ ∃ r : Int32, v = r.toInt64 ∧ cP_rows z kd r z1) ∨ (cX_rows z kd k ∧ z1 = z)
def cP_write (z : cZ) (nu : Int32) (r : Int32) (z1 : cZ) : Prop := ∃ j, j < zW z ∧ nu = nI j ∧ r = zJ z 0 j ∧ z1 = z
def cX_write (z : cZ) (nu : Int32) (k : Int32) : Prop := (k = 1 ∧ ¬ (¬ nu < 0 ∧ nu < nI (zW z)))
def cO_write (z : cZ) (nu : Int32) (k : Int32) (v : Int64) (z1 : cZ) : Prop := (k = 0 ∧ ∃ r : Int32, v = r.toInt64 ∧ cP_write z nu r z1) ∨ (cX_write z nu k ∧ z1 = z)
def cP_written (z : cZ) (nu : Int32) (r : Int32) (z1 : cZ) : Prop := ∃ j, j < zW z ∧ nu = nI j ∧ r = zJ z 1 j ∧ z1 = z
def cX_written (z : cZ) (nu : Int32) (k : Int32) : Prop := (k = 1 ∧ ¬ (¬ nu < 0 ∧ nu < nI (zW z)))
def cO_written (z : cZ) (nu : Int32) (k : Int32) (v : Int64) (z1 : cZ) : Prop := (k = 0 ∧ ∃ r : Int32, v = r.toInt64 ∧ cP_written z nu r z1) ∨ (cX_written z nu k ∧ z1 = z)
def cP_rowName (z : cZ) (kd ky : Int32) (r : Int32) (z1 : cZ) : Prop := ∃ k, aK kd k ∧ (rV z k ky).1 = true ∧ r = (rV z k ky).2.1 ∧ z1 = z
def cX_rowName (z : cZ) (kd ky : Int32) (k : Int32) : Prop := (k = 1 ∧ kOK kd = false) ∨ (k = 2 ∧ ∃ k, aK kd k ∧ (rV z k ky).1 = false)
def cO_rowName (z : cZ) (kd ky : Int32) (k : Int32) (v : Int64) (z1 : cZ) : Prop := (k = 0 ∧ ∃ r : Int32, v = r.toInt64 ∧ cP_rowName z kd ky r z1) ∨ (cX_rowName z kd ky k ∧ z1 = z)
def cP_rowReference (z : cZ) (kd ky : Int32) (r : Int32) (z1 : cZ) : Prop := ∃ k, aK kd k ∧ (rV z k ky).1 = true ∧ r = (rV z k ky).2.2.1 ∧ z1 = z
def cX_rowReference (z : cZ) (kd ky : Int32) (k : Int32) : Prop := (k = 1 ∧ kOK kd = false) ∨ (k = 2 ∧ ∃ k, aK kd k ∧ (rV z k ky).1 = false)
def cO_rowReference (z : cZ) (kd ky : Int32) (k : Int32) (v : Int64) (z1 : cZ) : Prop := (k = 0 ∧ ∃ r : Int32, v = r.toInt64 ∧ cP_rowReference z kd ky r z1) ∨ (cX_rowReference z kd ky k ∧ z1 = z)
def cP_rowVersion (z : cZ) (kd ky : Int32) (r : Int32) (z1 : cZ) : Prop := ∃ k, aK kd k ∧ (rV z k ky).1 = true ∧ r = (rV z k ky).2.2.2 ∧ z1 = z
def cX_rowVersion (z : cZ) (kd ky : Int32) (k : Int32) : Prop := (k = 1 ∧ kOK kd = false) ∨ (k = 2 ∧ ∃ k, aK kd k ∧ (rV z k ky).1 = false)
def cO_rowVersion (z : cZ) (kd ky : Int32) (k : Int32) (v : Int64) (z1 : cZ) : Prop := (k = 0 ∧ ∃ r : Int32, v = r.toInt64 ∧ cP_rowVersion z kd ky r z1) ∨ (cX_rowVersion z kd ky k ∧ z1 = z)
theorem CW.tO {G : gG} {dce x oa : Nat} {ad : Nat → Nat} {M M1 M2 : gM} {y y1 : cY} {z z1 : cZ} {g : Nat → Int64} {v : Int64} (h : CW G dce x ad M y z) (ho : M oa = some (oO G g)) (hc : CW G dce x ad M1 y1 z1) (hs : cStep ad dce y z M y1 z1 M1) (e : M2 = mu M1 oa (oO G (vp_updL g 0 v))) : M2 oa = some (oO G (vp_updL g 0 v)) ∧ CW G dce x ad M2 y1 z1 ∧ ((∀ b e, M b = some e → ¬ cOwn ad y z dce b → b ≠ oa → M2 b = some e) ∧ ∀ b, cOwn ad y1 z1 dce b → cOwn ad y z dce b ∨ M b = none) := by
  have ho1 := hs.1 oa _ ho (h.nO ho)
  refine ⟨by rw [e]; exact mu_s _ _ _, hc.out ho1 e, fun b w hb hn hne => ?_, hs.2⟩
  rw [e]
  exact mu_g (hs.1 b w hb hn) hne
theorem cStep.w {ad : Nat → Nat} {dce oa : Nat} {y y1 : cY} {z z1 : cZ} {M M1 : gM} (hs : cStep ad dce y z M y1 z1 M1) : (∀ b e, M b = some e → ¬ cOwn ad y z dce b → b ≠ oa → M1 b = some e) ∧ ∀ b, cOwn ad y1 z1 dce b → cOwn ad y z dce b ∨ M b = none := ⟨fun b w hb hn _ => hs.1 b w hb hn, hs.2⟩
set_option maxHeartbeats 4000000 in
set_option maxRecDepth 100000 in
theorem c_L_makeAuthor (l : Launch) (G : gG) (dce sz : Nat) (M : gM)  (hlt : l.stackTraces = false) (x : Nat) (ad : Nat → Nat) (y : cY) (z : cZ) (hcw : CW G dce x ad M y z) (heq : cEq z) (oa : Nat) (g0 : Nat → Int64) (hoa : M oa = some (oO G g0)) (si nm : Int32) : mI l yL_makeAuthor wsL_makeAuthor ({ frames := 10, cells := 10, slots := 6184, locals := 251 }) G dce sz M [.ref x, .int si, .int nm, .ref oa] (fun k M' => ∃ (y1 : cY) (z1 : cZ) (g1 : Nat → Int64), cO_makeAuthor z si nm k (g1 0) z1 ∧ M' oa = some (oO G g1) ∧ CW G dce x ad M' y1 z1 ∧ ((∀ b e, M b = some e → ¬ cOwn ad y z dce b → b ≠ oa → M' b = some e) ∧ ∀ b, cOwn ad y1 z1 dce b → cOwn ad y z dce b ∨ M b = none)) (10) (6184) := by
  have hX9 := hcw.1.1
  refine wMetW (Qc := QI G _) (cc := cL_makeAuthor) (maxL := 5) (ret := (some .int)) (hh := [(0, 10, 13, 13), (0, 10, 17, 15)]) (by decide) rfl (Nat.le_of_ble_eq_true rfl) ?_
  intro p e s m below meth c A ls X htab hnm hw hK hZ hA hS hsz eA hl
  obtain ⟨hx, hb, hr, hts, hown, hlk, hml⟩ := id X
  have hl : lv_has ls 5 [(0, .ref x), (1, .int si), (2, .int nm), (3, .ref oa)] := hl
  refine lv_aload_n hx hb dL_makeAuthor_0 rfl (lv_at hl 3 rfl) ?_
  refine lv_iconst (v := 0) hx hb dL_makeAuthor_1 (by decide) ?_
  refine lv_aload_n hx hb dL_makeAuthor_2 rfl (lv_at hl 0 rfl) ?_
  refine lv_iload_n hx hb dL_makeAuthor_3 rfl (lv_at hl 1 rfl) ?_
  refine lv_iload_n hx hb dL_makeAuthor_4 rfl (lv_at hl 2 rfl) ?_
  refine x_callVi X (ci := 7) rfl hX9 hK hw hZ hS hA (As := [.int si, .int nm]) (rest := [.int 0, .ref oa]) (c_makeAuthor l G dce _ M hlt x ad y z hcw heq si nm) (cwV 2 hts gL_makeAuthor_X6_makeAuthor rfl rfl rfl (by decide +kernel) ⟨Nat.le_of_ble_eq_true rfl, Nat.le_of_ble_eq_true rfl⟩) rfl hl.1 rfl (Nat.le_of_ble_eq_true rfl) dL_makeAuthor_5 (Nat.le_of_ble_eq_true rfl) (Nat.le_of_ble_eq_true rfl) (fun E ce q9 M1 H locs hp hw hS hz hk hce hcv hcl9 => ?_) (fun r2 M1 H locs hp hw hS hz hk => ?_)
  · obtain ⟨hpx, hM9⟩ := hp
    rw [hM9] at hw
    rcases hpx with ⟨hE, hx9⟩ | ⟨hE, hx9⟩
    · have hE : E = "java/lang/IndexOutOfBoundsException" := hE
      subst hE
      refine vx_catch (name := "java/lang/IndexOutOfBoundsException") hown [] ⟨0, 10, 13, 13⟩ [⟨0, 10, 17, 15⟩] (htab.trans rfl) (fun _ h => absurd h List.not_mem_nil) rfl (by decide) (hts (.classLink RL 13 "java/lang/IndexOutOfBoundsException") (by decide +kernel)) (va_Nw.use rfl (hZ.2.2.2.2.1 ("java/lang/IndexOutOfBoundsException", "java/lang/IndexOutOfBoundsException") (by decide))) hce hcv hcl9 ?_
      refine lv_astore (lv' := [(4, .ref q9), (0, .ref x), (1, .int si), (2, .int nm), (3, .ref oa)]) hx hb dL_makeAuthor_13 hl (by decide) rfl (fun ls hl => ?_)
      refine lv_iconst (v := 1) hx hb dL_makeAuthor_15 (by decide) ?_
      exact m_iret X hK hw hS (⟨y, z, g0, Or.inr ⟨Or.inl ⟨rfl, hx9⟩, rfl⟩, hoa, hcw, cStep.rf.w⟩) (by omega) (by omega) dL_makeAuthor_16
    · have hE : E = "java/lang/IllegalArgumentException" := hE
      subst hE
      refine vx_catch (name := "java/lang/IllegalArgumentException") hown [⟨0, 10, 13, 13⟩] ⟨0, 10, 17, 15⟩ [] (htab.trans rfl) (List.forall_mem_cons.mpr ⟨Or.inr ⟨by decide, "java/lang/IndexOutOfBoundsException", hts (.classLink RL 13 "java/lang/IndexOutOfBoundsException") (by decide +kernel), hZ.2.2.2.2.2.1 ("java/lang/IllegalArgumentException", "java/lang/IndexOutOfBoundsException") (by decide)⟩, fun _ h => absurd h List.not_mem_nil⟩) rfl (by decide) (hts (.classLink RL 15 "java/lang/IllegalArgumentException") (by decide +kernel)) (va_Nw.use rfl (hZ.2.2.2.2.1 ("java/lang/IllegalArgumentException", "java/lang/IllegalArgumentException") (by decide))) hce hcv hcl9 ?_
      refine lv_astore (lv' := [(4, .ref q9), (0, .ref x), (1, .int si), (2, .int nm), (3, .ref oa)]) hx hb dL_makeAuthor_17 hl (by decide) rfl (fun ls hl => ?_)
      refine lv_iconst (v := 2) hx hb dL_makeAuthor_19 (by decide) ?_
      exact m_iret X hK hw hS (⟨y, z, g0, Or.inr ⟨Or.inr (⟨rfl, hx9⟩), rfl⟩, hoa, hcw, cStep.rf.w⟩) (by omega) (by omega) dL_makeAuthor_20
  obtain ⟨r9, er9⟩ : ∃ r9, r9 = r2 := ⟨_, rfl⟩
  rw [← er9] at hp
  rw [← er9]
  have hP : ∃ (y1 : cY) (z1 : cZ), CW G dce x ad M1 y1 z1 ∧ cStep ad dce y z M y1 z1 M1 ∧ cP_makeAuthor z si nm r9 z1 := by
    rcases hp with ⟨i, a1, a2, (⟨a3, a4, y1, hc1, hs1⟩ | ⟨a3, a4, a5⟩)⟩
    · exact ⟨y1, kMk i 0 nm (-1) z, hc1, hs1, ⟨i, a1, a2, Or.inl ⟨a3, a4, rfl⟩⟩⟩
    · exact ⟨y, z, by rw [a5]; exact hcw, by rw [a5]; exact cStep.rf, ⟨i, a1, a2, Or.inr ⟨a3, a4, rfl⟩⟩⟩
  obtain ⟨y1, z1, hc1, hs1, hco⟩ := hP
  have ho1 : M1 oa = some (.inl (G.2 2, 1, .inr (.inl g0))) := hs1.1 oa _ hoa (hcw.nO hoa)
  refine lv_i2l hx hb dL_makeAuthor_8 rfl ?_
  refine m_last X hK hw hS ho1 (i := 0) (by unfold vp_in; decide) dL_makeAuthor_9 (fun M3 H locs eM3 hw hS => ?_)
  refine lv_goto (tgt := 21) hx hb dL_makeAuthor_10 (by decide) ?_
  refine lv_iconst (v := 0) hx hb dL_makeAuthor_21 (by decide) ?_
  have hT := hcw.tO hoa hc1 hs1 eM3
  exact m_iret X hK hw hS (⟨y1, z1, _, Or.inl ⟨rfl, r9, rfl, hco⟩, hT⟩) (by omega) (by omega) dL_makeAuthor_22
set_option maxHeartbeats 4000000 in
set_option maxRecDepth 100000 in
theorem c_L_makeBook (l : Launch) (G : gG) (dce sz : Nat) (M : gM)  (hlt : l.stackTraces = false) (x : Nat) (ad : Nat → Nat) (y : cY) (z : cZ) (hcw : CW G dce x ad M y z) (heq : cEq z) (oa : Nat) (g0 : Nat → Int64) (hoa : M oa = some (oO G g0)) (si nm au : Int32) : mI l yL_makeBook wsL_makeBook ({ frames := 10, cells := 11, slots := 6190, locals := 252 }) G dce sz M [.ref x, .int si, .int nm, .int au, .ref oa] (fun k M' => ∃ (y1 : cY) (z1 : cZ) (g1 : Nat → Int64), cO_makeBook z si nm au k (g1 0) z1 ∧ M' oa = some (oO G g1) ∧ CW G dce x ad M' y1 z1 ∧ ((∀ b e, M b = some e → ¬ cOwn ad y z dce b → b ≠ oa → M' b = some e) ∧ ∀ b, cOwn ad y1 z1 dce b → cOwn ad y z dce b ∨ M b = none)) (11) (6190) := by
  have hX9 := hcw.1.1
  refine wMetW (Qc := QI G _) (cc := cL_makeBook) (maxL := 6) (ret := (some .int)) (hh := [(0, 12, 15, 13), (0, 12, 19, 15), (0, 12, 23, 21)]) (by decide) rfl (Nat.le_of_ble_eq_true rfl) ?_
  intro p e s m below meth c A ls X htab hnm hw hK hZ hA hS hsz eA hl
  obtain ⟨hx, hb, hr, hts, hown, hlk, hml⟩ := id X
  have hl : lv_has ls 6 [(0, .ref x), (1, .int si), (2, .int nm), (3, .int au), (4, .ref oa)] := hl
  refine lv_aload hx hb dL_makeBook_0 (lv_at hl 4 rfl) ?_
  refine lv_iconst (v := 0) hx hb dL_makeBook_2 (by decide) ?_
  refine lv_aload_n hx hb dL_makeBook_3 rfl (lv_at hl 0 rfl) ?_
  refine lv_iload_n hx hb dL_makeBook_4 rfl (lv_at hl 1 rfl) ?_
  refine lv_iload_n hx hb dL_makeBook_5 rfl (lv_at hl 2 rfl) ?_
  refine lv_iload_n hx hb dL_makeBook_6 rfl (lv_at hl 3 rfl) ?_
  refine x_callVi X (ci := 7) rfl hX9 hK hw hZ hS hA (As := [.int si, .int nm, .int au]) (rest := [.int 0, .ref oa]) (c_makeBook l G dce _ M hlt x ad y z hcw heq si nm au) (cwV 3 hts gL_makeBook_X6_makeBook rfl rfl rfl (by decide +kernel) ⟨Nat.le_of_ble_eq_true rfl, Nat.le_of_ble_eq_true rfl⟩) rfl hl.1 rfl (Nat.le_of_ble_eq_true rfl) dL_makeBook_7 (Nat.le_of_ble_eq_true rfl) (Nat.le_of_ble_eq_true rfl) (fun E ce q9 M1 H locs hp hw hS hz hk hce hcv hcl9 => ?_) (fun r2 M1 H locs hp hw hS hz hk => ?_)
  · obtain ⟨hpx, hM9⟩ := hp
    rw [hM9] at hw
    rcases hpx with ⟨hE, hx9⟩ | ⟨hE, hx9⟩ | ⟨hE, hx9⟩
    · have hE : E = "java/lang/IndexOutOfBoundsException" := hE
      subst hE
      refine vx_catch (name := "java/lang/IndexOutOfBoundsException") hown [] ⟨0, 12, 15, 13⟩ [⟨0, 12, 19, 15⟩, ⟨0, 12, 23, 21⟩] (htab.trans rfl) (fun _ h => absurd h List.not_mem_nil) rfl (by decide) (hts (.classLink RL 13 "java/lang/IndexOutOfBoundsException") (by decide +kernel)) (va_Nw.use rfl (hZ.2.2.2.2.1 ("java/lang/IndexOutOfBoundsException", "java/lang/IndexOutOfBoundsException") (by decide))) hce hcv hcl9 ?_
      refine lv_astore (lv' := [(5, .ref q9), (0, .ref x), (1, .int si), (2, .int nm), (3, .int au), (4, .ref oa)]) hx hb dL_makeBook_15 hl (by decide) rfl (fun ls hl => ?_)
      refine lv_iconst (v := 1) hx hb dL_makeBook_17 (by decide) ?_
      exact m_iret X hK hw hS (⟨y, z, g0, Or.inr ⟨Or.inl ⟨rfl, hx9⟩, rfl⟩, hoa, hcw, cStep.rf.w⟩) (by omega) (by omega) dL_makeBook_18
    · have hE : E = "java/lang/IllegalArgumentException" := hE
      subst hE
      refine vx_catch (name := "java/lang/IllegalArgumentException") hown [⟨0, 12, 15, 13⟩] ⟨0, 12, 19, 15⟩ [⟨0, 12, 23, 21⟩] (htab.trans rfl) (List.forall_mem_cons.mpr ⟨Or.inr ⟨by decide, "java/lang/IndexOutOfBoundsException", hts (.classLink RL 13 "java/lang/IndexOutOfBoundsException") (by decide +kernel), hZ.2.2.2.2.2.1 ("java/lang/IllegalArgumentException", "java/lang/IndexOutOfBoundsException") (by decide)⟩, fun _ h => absurd h List.not_mem_nil⟩) rfl (by decide) (hts (.classLink RL 15 "java/lang/IllegalArgumentException") (by decide +kernel)) (va_Nw.use rfl (hZ.2.2.2.2.1 ("java/lang/IllegalArgumentException", "java/lang/IllegalArgumentException") (by decide))) hce hcv hcl9 ?_
      refine lv_astore (lv' := [(5, .ref q9), (0, .ref x), (1, .int si), (2, .int nm), (3, .int au), (4, .ref oa)]) hx hb dL_makeBook_19 hl (by decide) rfl (fun ls hl => ?_)
      refine lv_iconst (v := 2) hx hb dL_makeBook_21 (by decide) ?_
      exact m_iret X hK hw hS (⟨y, z, g0, Or.inr ⟨Or.inr (Or.inl ⟨rfl, hx9⟩), rfl⟩, hoa, hcw, cStep.rf.w⟩) (by omega) (by omega) dL_makeBook_22
    · have hE : E = "java/lang/IllegalStateException" := hE
      subst hE
      refine vx_catch (name := "java/lang/IllegalStateException") hown [⟨0, 12, 15, 13⟩, ⟨0, 12, 19, 15⟩] ⟨0, 12, 23, 21⟩ [] (htab.trans rfl) (List.forall_mem_cons.mpr ⟨Or.inr ⟨by decide, "java/lang/IndexOutOfBoundsException", hts (.classLink RL 13 "java/lang/IndexOutOfBoundsException") (by decide +kernel), hZ.2.2.2.2.2.1 ("java/lang/IllegalStateException", "java/lang/IndexOutOfBoundsException") (by decide)⟩, List.forall_mem_cons.mpr ⟨Or.inr ⟨by decide, "java/lang/IllegalArgumentException", hts (.classLink RL 15 "java/lang/IllegalArgumentException") (by decide +kernel), hZ.2.2.2.2.2.1 ("java/lang/IllegalStateException", "java/lang/IllegalArgumentException") (by decide)⟩, fun _ h => absurd h List.not_mem_nil⟩⟩) rfl (by decide) (hts (.classLink RL 21 "java/lang/IllegalStateException") (by decide +kernel)) (va_Nw.use rfl (hZ.2.2.2.2.1 ("java/lang/IllegalStateException", "java/lang/IllegalStateException") (by decide))) hce hcv hcl9 ?_
      refine lv_astore (lv' := [(5, .ref q9), (0, .ref x), (1, .int si), (2, .int nm), (3, .int au), (4, .ref oa)]) hx hb dL_makeBook_23 hl (by decide) rfl (fun ls hl => ?_)
      refine lv_iconst (v := 3) hx hb dL_makeBook_25 (by decide) ?_
      exact m_iret X hK hw hS (⟨y, z, g0, Or.inr ⟨Or.inr (Or.inr (⟨rfl, hx9⟩)), rfl⟩, hoa, hcw, cStep.rf.w⟩) (by omega) (by omega) dL_makeBook_26
  obtain ⟨r9, er9⟩ : ∃ r9, r9 = r2 := ⟨_, rfl⟩
  rw [← er9] at hp
  rw [← er9]
  have hP : ∃ (y1 : cY) (z1 : cZ), CW G dce x ad M1 y1 z1 ∧ cStep ad dce y z M y1 z1 M1 ∧ cP_makeBook z si nm au r9 z1 := by
    rcases hp with ⟨i, a1, a2, a6, (⟨a3, a4, y1, hc1, hs1⟩ | ⟨a3, a4, a5⟩)⟩
    · exact ⟨y1, kMk i 1 nm au z, hc1, hs1, ⟨i, a1, a2, a6, Or.inl ⟨a3, a4, rfl⟩⟩⟩
    · exact ⟨y, z, by rw [a5]; exact hcw, by rw [a5]; exact cStep.rf, ⟨i, a1, a2, a6, Or.inr ⟨a3, a4, rfl⟩⟩⟩
  obtain ⟨y1, z1, hc1, hs1, hco⟩ := hP
  have ho1 : M1 oa = some (.inl (G.2 2, 1, .inr (.inl g0))) := hs1.1 oa _ hoa (hcw.nO hoa)
  refine lv_i2l hx hb dL_makeBook_10 rfl ?_
  refine m_last X hK hw hS ho1 (i := 0) (by unfold vp_in; decide) dL_makeBook_11 (fun M3 H locs eM3 hw hS => ?_)
  refine lv_goto (tgt := 27) hx hb dL_makeBook_12 (by decide) ?_
  refine lv_iconst (v := 0) hx hb dL_makeBook_27 (by decide) ?_
  have hT := hcw.tO hoa hc1 hs1 eM3
  exact m_iret X hK hw hS (⟨y1, z1, _, Or.inl ⟨rfl, r9, rfl, hco⟩, hT⟩) (by omega) (by omega) dL_makeBook_28
set_option maxHeartbeats 4000000 in
set_option maxRecDepth 100000 in
theorem c_L_find (l : Launch) (G : gG) (dce sz : Nat) (M : gM)  (hlt : l.stackTraces = false) (x : Nat) (ad : Nat → Nat) (y : cY) (z : cZ) (hcw : CW G dce x ad M y z) (heq : cEq z) (oa : Nat) (g0 : Nat → Int64) (hoa : M oa = some (oO G g0)) (si kd ky : Int32) : mI l yL_find wsL_find ({ frames := 8, cells := 2, slots := 12, locals := 129 }) G dce sz M [.ref x, .int si, .int kd, .int ky, .ref oa] (fun k M' => ∃ (y1 : cY) (z1 : cZ) (g1 : Nat → Int64), cO_find z si kd ky k (g1 0) z1 ∧ M' oa = some (oO G g1) ∧ CW G dce x ad M' y1 z1 ∧ ((∀ b e, M b = some e → ¬ cOwn ad y z dce b → b ≠ oa → M' b = some e) ∧ ∀ b, cOwn ad y1 z1 dce b → cOwn ad y z dce b ∨ M b = none)) (2) (12) := by
  have hX9 := hcw.1.1
  refine wMetW (Qc := QI G _) (cc := cL_find) (maxL := 6) (ret := (some .int)) (hh := [(0, 19, 22, 13), (0, 19, 26, 15)]) (by decide) rfl (Nat.le_of_ble_eq_true rfl) ?_
  intro p e s m below meth c A ls X htab hnm hw hK hZ hA hS hsz eA hl
  obtain ⟨hx, hb, hr, hts, hown, hlk, hml⟩ := id X
  have hl : lv_has ls 6 [(0, .ref x), (1, .int si), (2, .int kd), (3, .int ky), (4, .ref oa)] := hl
  refine lv_aload hx hb dL_find_0 (lv_at hl 4 rfl) ?_
  refine lv_iconst (v := 0) hx hb dL_find_2 (by decide) ?_
  refine lv_aload_n hx hb dL_find_3 rfl (lv_at hl 0 rfl) ?_
  refine lv_iload_n hx hb dL_find_4 rfl (lv_at hl 1 rfl) ?_
  refine lv_iload_n hx hb dL_find_5 rfl (lv_at hl 2 rfl) ?_
  refine lv_iload_n hx hb dL_find_6 rfl (lv_at hl 3 rfl) ?_
  refine x_callVi X (ci := 7) rfl hX9 hK hw hZ hS hA (As := [.int si, .int kd, .int ky]) (rest := [.int 0, .ref oa]) (c_find l G dce _ M hlt x ad y z hcw heq si kd ky) (cwV 3 hts gL_find_X6_find rfl rfl rfl (by decide +kernel) ⟨Nat.le_of_ble_eq_true rfl, Nat.le_of_ble_eq_true rfl⟩) rfl hl.1 rfl (Nat.le_of_ble_eq_true rfl) dL_find_7 (Nat.le_of_ble_eq_true rfl) (Nat.le_of_ble_eq_true rfl) (fun E ce q9 M1 H locs hp hw hS hz hk hce hcv hcl9 => ?_) (fun r2 M1 H locs hp hw hS hz hk => ?_)
  · obtain ⟨hpx, hM9⟩ := hp
    rw [hM9] at hw
    rcases hpx with ⟨hE, hx9⟩ | ⟨hE, hx9⟩
    · have hE : E = "java/lang/IndexOutOfBoundsException" := hE
      subst hE
      refine vx_catch (name := "java/lang/IndexOutOfBoundsException") hown [] ⟨0, 19, 22, 13⟩ [⟨0, 19, 26, 15⟩] (htab.trans rfl) (fun _ h => absurd h List.not_mem_nil) rfl (by decide) (hts (.classLink RL 13 "java/lang/IndexOutOfBoundsException") (by decide +kernel)) (va_Nw.use rfl (hZ.2.2.2.2.1 ("java/lang/IndexOutOfBoundsException", "java/lang/IndexOutOfBoundsException") (by decide))) hce hcv hcl9 ?_
      refine lv_astore (lv' := [(5, .ref q9), (0, .ref x), (1, .int si), (2, .int kd), (3, .int ky), (4, .ref oa)]) hx hb dL_find_22 hl (by decide) rfl (fun ls hl => ?_)
      refine lv_iconst (v := 1) hx hb dL_find_24 (by decide) ?_
      exact m_iret X hK hw hS (⟨y, z, g0, Or.inr ⟨Or.inl ⟨rfl, hx9⟩, rfl⟩, hoa, hcw, cStep.rf.w⟩) (by omega) (by omega) dL_find_25
    · have hE : E = "java/lang/IllegalArgumentException" := hE
      subst hE
      refine vx_catch (name := "java/lang/IllegalArgumentException") hown [⟨0, 19, 22, 13⟩] ⟨0, 19, 26, 15⟩ [] (htab.trans rfl) (List.forall_mem_cons.mpr ⟨Or.inr ⟨by decide, "java/lang/IndexOutOfBoundsException", hts (.classLink RL 13 "java/lang/IndexOutOfBoundsException") (by decide +kernel), hZ.2.2.2.2.2.1 ("java/lang/IllegalArgumentException", "java/lang/IndexOutOfBoundsException") (by decide)⟩, fun _ h => absurd h List.not_mem_nil⟩) rfl (by decide) (hts (.classLink RL 15 "java/lang/IllegalArgumentException") (by decide +kernel)) (va_Nw.use rfl (hZ.2.2.2.2.1 ("java/lang/IllegalArgumentException", "java/lang/IllegalArgumentException") (by decide))) hce hcv hcl9 ?_
      refine lv_astore (lv' := [(5, .ref q9), (0, .ref x), (1, .int si), (2, .int kd), (3, .int ky), (4, .ref oa)]) hx hb dL_find_26 hl (by decide) rfl (fun ls hl => ?_)
      refine lv_iconst (v := 2) hx hb dL_find_28 (by decide) ?_
      exact m_iret X hK hw hS (⟨y, z, g0, Or.inr ⟨Or.inr (⟨rfl, hx9⟩), rfl⟩, hoa, hcw, cStep.rf.w⟩) (by omega) (by omega) dL_find_29
  obtain ⟨r9, er9⟩ : ∃ r9, r9 = r2 := ⟨_, rfl⟩
  rw [← er9] at hp
  rw [← er9]
  have hP : ∃ (y1 : cY) (z1 : cZ), CW G dce x ad M1 y1 z1 ∧ cStep ad dce y z M y1 z1 M1 ∧ cP_find z si kd ky r9 z1 := by
    rcases hp with ⟨i, k, a1, a2, a3, y1, ho1, hc1, hs1⟩
    exact ⟨y1, kFi i k ky z, hc1, hs1, ⟨i, k, a1, a2, a3, rfl⟩⟩
  obtain ⟨y1, z1, hc1, hs1, hco⟩ := hP
  have ho1 : M1 oa = some (.inl (G.2 2, 1, .inr (.inl g0))) := hs1.1 oa _ hoa (hcw.nO hoa)
  have hrb : ∃ b9 : Bool, r9 = bI b9 := by
    obtain ⟨i, k, -, -, h9, -⟩ := hco
    exact ⟨_, h9⟩
  obtain ⟨b9, hb9⟩ := hrb
  rw [hb9]
  refine lv_if_eq (tgt := 17) hx hb dL_find_10 (by decide) (fun c_10 => ?_) (fun c_10 => ?_)
  · refine lv_lconst (v := 0) hx hb dL_find_17 (by decide) ?_
    refine m_last X hK hw hS ho1 (i := 0) (by unfold vp_in; decide) dL_find_18 (fun M3 H locs eM3 hw hS => ?_)
    refine lv_goto (tgt := 30) hx hb dL_find_19 (by decide) ?_
    refine lv_iconst (v := 0) hx hb dL_find_30 (by decide) ?_
    have hT := hcw.tO hoa hc1 hs1 eM3
    exact m_iret X hK hw hS (⟨y1, z1, _, Or.inl ⟨rfl, r9, by rw [hb9, show b9 = false from (bI_0 _).mp c_10]; rfl, hco⟩, hT⟩) (by omega) (by omega) dL_find_31
  · refine lv_lconst (v := 1) hx hb dL_find_13 (by decide) ?_
    refine lv_goto (tgt := 18) hx hb dL_find_14 (by decide) ?_
    refine m_last X hK hw hS ho1 (i := 0) (by unfold vp_in; decide) dL_find_18 (fun M4 H locs eM4 hw hS => ?_)
    refine lv_goto (tgt := 30) hx hb dL_find_19 (by decide) ?_
    refine lv_iconst (v := 0) hx hb dL_find_30 (by decide) ?_
    have hT := hcw.tO hoa hc1 hs1 eM4
    exact m_iret X hK hw hS (⟨y1, z1, _, Or.inl ⟨rfl, r9, by rw [hb9, show b9 = true from bI_t c_10]; rfl, hco⟩, hT⟩) (by omega) (by omega) dL_find_31
set_option maxHeartbeats 4000000 in
set_option maxRecDepth 100000 in
theorem c_L_books (l : Launch) (G : gG) (dce sz : Nat) (M : gM)  (hlt : l.stackTraces = false) (x : Nat) (ad : Nat → Nat) (y : cY) (z : cZ) (hcw : CW G dce x ad M y z) (heq : cEq z) (oa : Nat) (g0 : Nat → Int64) (hoa : M oa = some (oO G g0)) (si au : Int32) : mI l yL_books wsL_books ({ frames := 8, cells := 2, slots := 12, locals := 139 }) G dce sz M [.ref x, .int si, .int au, .ref oa] (fun k M' => ∃ (y1 : cY) (z1 : cZ) (g1 : Nat → Int64), cO_books z si au k (g1 0) z1 ∧ M' oa = some (oO G g1) ∧ CW G dce x ad M' y1 z1 ∧ ((∀ b e, M b = some e → ¬ cOwn ad y z dce b → b ≠ oa → M' b = some e) ∧ ∀ b, cOwn ad y1 z1 dce b → cOwn ad y z dce b ∨ M b = none)) (2) (12) := by
  have hX9 := hcw.1.1
  refine wMetW (Qc := QI G _) (cc := cL_books) (maxL := 5) (ret := (some .int)) (hh := [(0, 10, 13, 13), (0, 10, 17, 21)]) (by decide) rfl (Nat.le_of_ble_eq_true rfl) ?_
  intro p e s m below meth c A ls X htab hnm hw hK hZ hA hS hsz eA hl
  obtain ⟨hx, hb, hr, hts, hown, hlk, hml⟩ := id X
  have hl : lv_has ls 5 [(0, .ref x), (1, .int si), (2, .int au), (3, .ref oa)] := hl
  refine lv_aload_n hx hb dL_books_0 rfl (lv_at hl 3 rfl) ?_
  refine lv_iconst (v := 0) hx hb dL_books_1 (by decide) ?_
  refine lv_aload_n hx hb dL_books_2 rfl (lv_at hl 0 rfl) ?_
  refine lv_iload_n hx hb dL_books_3 rfl (lv_at hl 1 rfl) ?_
  refine lv_iload_n hx hb dL_books_4 rfl (lv_at hl 2 rfl) ?_
  refine x_callVi X (ci := 7) rfl hX9 hK hw hZ hS hA (As := [.int si, .int au]) (rest := [.int 0, .ref oa]) (c_books l G dce _ M hlt x ad y z hcw heq si au) (cwV 2 hts gL_books_X6_books rfl rfl rfl (by decide +kernel) ⟨Nat.le_of_ble_eq_true rfl, Nat.le_of_ble_eq_true rfl⟩) rfl hl.1 rfl (Nat.le_of_ble_eq_true rfl) dL_books_5 (Nat.le_of_ble_eq_true rfl) (Nat.le_of_ble_eq_true rfl) (fun E ce q9 M1 H locs hp hw hS hz hk hce hcv hcl9 => ?_) (fun r2 M1 H locs hp hw hS hz hk => ?_)
  · obtain ⟨hpx, hM9⟩ := hp
    rw [hM9] at hw
    rcases hpx with ⟨hE, hx9⟩ | ⟨hE, hx9⟩
    · have hE : E = "java/lang/IndexOutOfBoundsException" := hE
      subst hE
      refine vx_catch (name := "java/lang/IndexOutOfBoundsException") hown [] ⟨0, 10, 13, 13⟩ [⟨0, 10, 17, 21⟩] (htab.trans rfl) (fun _ h => absurd h List.not_mem_nil) rfl (by decide) (hts (.classLink RL 13 "java/lang/IndexOutOfBoundsException") (by decide +kernel)) (va_Nw.use rfl (hZ.2.2.2.2.1 ("java/lang/IndexOutOfBoundsException", "java/lang/IndexOutOfBoundsException") (by decide))) hce hcv hcl9 ?_
      refine lv_astore (lv' := [(4, .ref q9), (0, .ref x), (1, .int si), (2, .int au), (3, .ref oa)]) hx hb dL_books_13 hl (by decide) rfl (fun ls hl => ?_)
      refine lv_iconst (v := 1) hx hb dL_books_15 (by decide) ?_
      exact m_iret X hK hw hS (⟨y, z, g0, Or.inr ⟨Or.inl ⟨rfl, hx9⟩, rfl⟩, hoa, hcw, cStep.rf.w⟩) (by omega) (by omega) dL_books_16
    · have hE : E = "java/lang/IllegalStateException" := hE
      subst hE
      refine vx_catch (name := "java/lang/IllegalStateException") hown [⟨0, 10, 13, 13⟩] ⟨0, 10, 17, 21⟩ [] (htab.trans rfl) (List.forall_mem_cons.mpr ⟨Or.inr ⟨by decide, "java/lang/IndexOutOfBoundsException", hts (.classLink RL 13 "java/lang/IndexOutOfBoundsException") (by decide +kernel), hZ.2.2.2.2.2.1 ("java/lang/IllegalStateException", "java/lang/IndexOutOfBoundsException") (by decide)⟩, fun _ h => absurd h List.not_mem_nil⟩) rfl (by decide) (hts (.classLink RL 21 "java/lang/IllegalStateException") (by decide +kernel)) (va_Nw.use rfl (hZ.2.2.2.2.1 ("java/lang/IllegalStateException", "java/lang/IllegalStateException") (by decide))) hce hcv hcl9 ?_
      refine lv_astore (lv' := [(4, .ref q9), (0, .ref x), (1, .int si), (2, .int au), (3, .ref oa)]) hx hb dL_books_17 hl (by decide) rfl (fun ls hl => ?_)
      refine lv_iconst (v := 2) hx hb dL_books_19 (by decide) ?_
      exact m_iret X hK hw hS (⟨y, z, g0, Or.inr ⟨Or.inr (⟨rfl, hx9⟩), rfl⟩, hoa, hcw, cStep.rf.w⟩) (by omega) (by omega) dL_books_20
  obtain ⟨r9, er9⟩ : ∃ r9, r9 = r2 := ⟨_, rfl⟩
  rw [← er9] at hp
  rw [← er9]
  have hP : ∃ (y1 : cY) (z1 : cZ), CW G dce x ad M1 y1 z1 ∧ cStep ad dce y z M y1 z1 M1 ∧ cP_books z si au r9 z1 := by
    rcases hp with ⟨i, a1, a2, a3, y1, ho1, hc1, hs1⟩
    exact ⟨y1, itr (kLd i 1 au) (zN z 1) z, hc1, hs1, ⟨i, a1, a2, a3, rfl⟩⟩
  obtain ⟨y1, z1, hc1, hs1, hco⟩ := hP
  have ho1 : M1 oa = some (.inl (G.2 2, 1, .inr (.inl g0))) := hs1.1 oa _ hoa (hcw.nO hoa)
  refine lv_i2l hx hb dL_books_8 rfl ?_
  refine m_last X hK hw hS ho1 (i := 0) (by unfold vp_in; decide) dL_books_9 (fun M3 H locs eM3 hw hS => ?_)
  refine lv_goto (tgt := 21) hx hb dL_books_10 (by decide) ?_
  refine lv_iconst (v := 0) hx hb dL_books_21 (by decide) ?_
  have hT := hcw.tO hoa hc1 hs1 eM3
  exact m_iret X hK hw hS (⟨y1, z1, _, Or.inl ⟨rfl, r9, rfl, hco⟩, hT⟩) (by omega) (by omega) dL_books_22
set_option maxHeartbeats 4000000 in
set_option maxRecDepth 100000 in
theorem c_L_setName (l : Launch) (G : gG) (dce sz : Nat) (M : gM)  (hlt : l.stackTraces = false) (x : Nat) (ad : Nat → Nat) (y : cY) (z : cZ) (hcw : CW G dce x ad M y z) (si kd ky nm : Int32) : mI l yL_setName wsL_setName ({ frames := 8, cells := 4, slots := 24, locals := 134 }) G dce sz M [.ref x, .int si, .int kd, .int ky, .int nm] (fun k M' => ∃ (y1 : cY) (z1 : cZ), cO_setName z si kd ky nm k z1 ∧ CW G dce x ad M' y1 z1 ∧ cStep ad dce y z M y1 z1 M') (4) (24) := by
  have hX9 := hcw.1.1
  refine wMetW (Qc := QI G _) (cc := cL_setName) (maxL := 6) (ret := (some .int)) (hh := [(0, 9, 12, 13), (0, 9, 16, 15), (0, 9, 20, 21)]) (by decide) rfl (Nat.le_of_ble_eq_true rfl) ?_
  intro p e s m below meth c A ls X htab hnm hw hK hZ hA hS hsz eA hl
  obtain ⟨hx, hb, hr, hts, hown, hlk, hml⟩ := id X
  have hl : lv_has ls 6 [(0, .ref x), (1, .int si), (2, .int kd), (3, .int ky), (4, .int nm)] := hl
  refine lv_aload_n hx hb dL_setName_0 rfl (lv_at hl 0 rfl) ?_
  refine lv_iload_n hx hb dL_setName_1 rfl (lv_at hl 1 rfl) ?_
  refine lv_iload_n hx hb dL_setName_2 rfl (lv_at hl 2 rfl) ?_
  refine lv_iload_n hx hb dL_setName_3 rfl (lv_at hl 3 rfl) ?_
  refine lv_iload hx hb dL_setName_4 (lv_at hl 4 rfl) ?_
  refine x_callVv X (ci := 7) rfl hX9 hK hw hZ hS hA (As := [.int si, .int kd, .int ky, .int nm]) (rest := []) (c_setName l G dce _ M hlt x ad y z hcw si kd ky nm) (cwV 4 hts gL_setName_X6_setName rfl rfl rfl (by decide +kernel) ⟨Nat.le_of_ble_eq_true rfl, Nat.le_of_ble_eq_true rfl⟩) rfl hl.1 rfl (Nat.le_of_ble_eq_true rfl) dL_setName_6 (Nat.le_of_ble_eq_true rfl) (Nat.le_of_ble_eq_true rfl) (fun E ce q9 M1 H locs hp hw hS hz hk hce hcv hcl9 => ?_) (fun M1 H locs hp hw hS hz hk => ?_)
  · obtain ⟨hpx, hM9⟩ := hp
    rw [hM9] at hw
    rcases hpx with ⟨hE, hx9⟩ | ⟨hE, hx9⟩ | ⟨hE, hx9⟩
    · have hE : E = "java/lang/IndexOutOfBoundsException" := hE
      subst hE
      refine vx_catch (name := "java/lang/IndexOutOfBoundsException") hown [] ⟨0, 9, 12, 13⟩ [⟨0, 9, 16, 15⟩, ⟨0, 9, 20, 21⟩] (htab.trans rfl) (fun _ h => absurd h List.not_mem_nil) rfl (by decide) (hts (.classLink RL 13 "java/lang/IndexOutOfBoundsException") (by decide +kernel)) (va_Nw.use rfl (hZ.2.2.2.2.1 ("java/lang/IndexOutOfBoundsException", "java/lang/IndexOutOfBoundsException") (by decide))) hce hcv hcl9 ?_
      refine lv_astore (lv' := [(5, .ref q9), (0, .ref x), (1, .int si), (2, .int kd), (3, .int ky), (4, .int nm)]) hx hb dL_setName_12 hl (by decide) rfl (fun ls hl => ?_)
      refine lv_iconst (v := 1) hx hb dL_setName_14 (by decide) ?_
      exact m_iret X hK hw hS (⟨y, z, Or.inr ⟨Or.inl ⟨rfl, hx9⟩, rfl⟩, hcw, cStep.rf⟩) (by omega) (by omega) dL_setName_15
    · have hE : E = "java/lang/IllegalArgumentException" := hE
      subst hE
      refine vx_catch (name := "java/lang/IllegalArgumentException") hown [⟨0, 9, 12, 13⟩] ⟨0, 9, 16, 15⟩ [⟨0, 9, 20, 21⟩] (htab.trans rfl) (List.forall_mem_cons.mpr ⟨Or.inr ⟨by decide, "java/lang/IndexOutOfBoundsException", hts (.classLink RL 13 "java/lang/IndexOutOfBoundsException") (by decide +kernel), hZ.2.2.2.2.2.1 ("java/lang/IllegalArgumentException", "java/lang/IndexOutOfBoundsException") (by decide)⟩, fun _ h => absurd h List.not_mem_nil⟩) rfl (by decide) (hts (.classLink RL 15 "java/lang/IllegalArgumentException") (by decide +kernel)) (va_Nw.use rfl (hZ.2.2.2.2.1 ("java/lang/IllegalArgumentException", "java/lang/IllegalArgumentException") (by decide))) hce hcv hcl9 ?_
      refine lv_astore (lv' := [(5, .ref q9), (0, .ref x), (1, .int si), (2, .int kd), (3, .int ky), (4, .int nm)]) hx hb dL_setName_16 hl (by decide) rfl (fun ls hl => ?_)
      refine lv_iconst (v := 2) hx hb dL_setName_18 (by decide) ?_
      exact m_iret X hK hw hS (⟨y, z, Or.inr ⟨Or.inr (Or.inl ⟨rfl, hx9⟩), rfl⟩, hcw, cStep.rf⟩) (by omega) (by omega) dL_setName_19
    · have hE : E = "java/lang/IllegalStateException" := hE
      subst hE
      refine vx_catch (name := "java/lang/IllegalStateException") hown [⟨0, 9, 12, 13⟩, ⟨0, 9, 16, 15⟩] ⟨0, 9, 20, 21⟩ [] (htab.trans rfl) (List.forall_mem_cons.mpr ⟨Or.inr ⟨by decide, "java/lang/IndexOutOfBoundsException", hts (.classLink RL 13 "java/lang/IndexOutOfBoundsException") (by decide +kernel), hZ.2.2.2.2.2.1 ("java/lang/IllegalStateException", "java/lang/IndexOutOfBoundsException") (by decide)⟩, List.forall_mem_cons.mpr ⟨Or.inr ⟨by decide, "java/lang/IllegalArgumentException", hts (.classLink RL 15 "java/lang/IllegalArgumentException") (by decide +kernel), hZ.2.2.2.2.2.1 ("java/lang/IllegalStateException", "java/lang/IllegalArgumentException") (by decide)⟩, fun _ h => absurd h List.not_mem_nil⟩⟩) rfl (by decide) (hts (.classLink RL 21 "java/lang/IllegalStateException") (by decide +kernel)) (va_Nw.use rfl (hZ.2.2.2.2.1 ("java/lang/IllegalStateException", "java/lang/IllegalStateException") (by decide))) hce hcv hcl9 ?_
      refine lv_astore (lv' := [(5, .ref q9), (0, .ref x), (1, .int si), (2, .int kd), (3, .int ky), (4, .int nm)]) hx hb dL_setName_20 hl (by decide) rfl (fun ls hl => ?_)
      refine lv_iconst (v := 3) hx hb dL_setName_22 (by decide) ?_
      exact m_iret X hK hw hS (⟨y, z, Or.inr ⟨Or.inr (Or.inr (⟨rfl, hx9⟩)), rfl⟩, hcw, cStep.rf⟩) (by omega) (by omega) dL_setName_23
  have hP : ∃ (y1 : cY) (z1 : cZ), CW G dce x ad M1 y1 z1 ∧ cStep ad dce y z M y1 z1 M1 ∧ cP_setName z si kd ky nm z1 := by
    rcases hp with ⟨i, k, j, a1, a2, a3, a4, a6, y1, ho1, hc1, hs1⟩
    exact ⟨y1, kNm i k j nm z, hc1, hs1, ⟨i, k, j, a1, a2, a3, a4, a6, rfl⟩⟩
  obtain ⟨y1, z1, hc1, hs1, hco⟩ := hP
  refine lv_goto (tgt := 24) hx hb dL_setName_9 (by decide) ?_
  refine lv_iconst (v := 0) hx hb dL_setName_24 (by decide) ?_
  exact m_iret X hK hw hS (⟨y1, z1, Or.inl ⟨rfl, hco⟩, hc1, hs1⟩) (by omega) (by omega) dL_setName_25
set_option maxHeartbeats 4000000 in
set_option maxRecDepth 100000 in
theorem c_L_setReference (l : Launch) (G : gG) (dce sz : Nat) (M : gM)  (hlt : l.stackTraces = false) (x : Nat) (ad : Nat → Nat) (y : cY) (z : cZ) (hcw : CW G dce x ad M y z) (si kd ky rf : Int32) : mI l yL_setReference wsL_setReference ({ frames := 8, cells := 4, slots := 24, locals := 134 }) G dce sz M [.ref x, .int si, .int kd, .int ky, .int rf] (fun k M' => ∃ (y1 : cY) (z1 : cZ), cO_setReference z si kd ky rf k z1 ∧ CW G dce x ad M' y1 z1 ∧ cStep ad dce y z M y1 z1 M') (4) (24) := by
  have hX9 := hcw.1.1
  refine wMetW (Qc := QI G _) (cc := cL_setReference) (maxL := 6) (ret := (some .int)) (hh := [(0, 9, 12, 13), (0, 9, 16, 15), (0, 9, 20, 21)]) (by decide) rfl (Nat.le_of_ble_eq_true rfl) ?_
  intro p e s m below meth c A ls X htab hnm hw hK hZ hA hS hsz eA hl
  obtain ⟨hx, hb, hr, hts, hown, hlk, hml⟩ := id X
  have hl : lv_has ls 6 [(0, .ref x), (1, .int si), (2, .int kd), (3, .int ky), (4, .int rf)] := hl
  refine lv_aload_n hx hb dL_setReference_0 rfl (lv_at hl 0 rfl) ?_
  refine lv_iload_n hx hb dL_setReference_1 rfl (lv_at hl 1 rfl) ?_
  refine lv_iload_n hx hb dL_setReference_2 rfl (lv_at hl 2 rfl) ?_
  refine lv_iload_n hx hb dL_setReference_3 rfl (lv_at hl 3 rfl) ?_
  refine lv_iload hx hb dL_setReference_4 (lv_at hl 4 rfl) ?_
  refine x_callVv X (ci := 7) rfl hX9 hK hw hZ hS hA (As := [.int si, .int kd, .int ky, .int rf]) (rest := []) (c_setReference l G dce _ M hlt x ad y z hcw si kd ky rf) (cwV 4 hts gL_setReference_X6_setReference rfl rfl rfl (by decide +kernel) ⟨Nat.le_of_ble_eq_true rfl, Nat.le_of_ble_eq_true rfl⟩) rfl hl.1 rfl (Nat.le_of_ble_eq_true rfl) dL_setReference_6 (Nat.le_of_ble_eq_true rfl) (Nat.le_of_ble_eq_true rfl) (fun E ce q9 M1 H locs hp hw hS hz hk hce hcv hcl9 => ?_) (fun M1 H locs hp hw hS hz hk => ?_)
  · obtain ⟨hpx, hM9⟩ := hp
    rw [hM9] at hw
    rcases hpx with ⟨hE, hx9⟩ | ⟨hE, hx9⟩ | ⟨hE, hx9⟩
    · have hE : E = "java/lang/IndexOutOfBoundsException" := hE
      subst hE
      refine vx_catch (name := "java/lang/IndexOutOfBoundsException") hown [] ⟨0, 9, 12, 13⟩ [⟨0, 9, 16, 15⟩, ⟨0, 9, 20, 21⟩] (htab.trans rfl) (fun _ h => absurd h List.not_mem_nil) rfl (by decide) (hts (.classLink RL 13 "java/lang/IndexOutOfBoundsException") (by decide +kernel)) (va_Nw.use rfl (hZ.2.2.2.2.1 ("java/lang/IndexOutOfBoundsException", "java/lang/IndexOutOfBoundsException") (by decide))) hce hcv hcl9 ?_
      refine lv_astore (lv' := [(5, .ref q9), (0, .ref x), (1, .int si), (2, .int kd), (3, .int ky), (4, .int rf)]) hx hb dL_setReference_12 hl (by decide) rfl (fun ls hl => ?_)
      refine lv_iconst (v := 1) hx hb dL_setReference_14 (by decide) ?_
      exact m_iret X hK hw hS (⟨y, z, Or.inr ⟨Or.inl ⟨rfl, hx9⟩, rfl⟩, hcw, cStep.rf⟩) (by omega) (by omega) dL_setReference_15
    · have hE : E = "java/lang/IllegalArgumentException" := hE
      subst hE
      refine vx_catch (name := "java/lang/IllegalArgumentException") hown [⟨0, 9, 12, 13⟩] ⟨0, 9, 16, 15⟩ [⟨0, 9, 20, 21⟩] (htab.trans rfl) (List.forall_mem_cons.mpr ⟨Or.inr ⟨by decide, "java/lang/IndexOutOfBoundsException", hts (.classLink RL 13 "java/lang/IndexOutOfBoundsException") (by decide +kernel), hZ.2.2.2.2.2.1 ("java/lang/IllegalArgumentException", "java/lang/IndexOutOfBoundsException") (by decide)⟩, fun _ h => absurd h List.not_mem_nil⟩) rfl (by decide) (hts (.classLink RL 15 "java/lang/IllegalArgumentException") (by decide +kernel)) (va_Nw.use rfl (hZ.2.2.2.2.1 ("java/lang/IllegalArgumentException", "java/lang/IllegalArgumentException") (by decide))) hce hcv hcl9 ?_
      refine lv_astore (lv' := [(5, .ref q9), (0, .ref x), (1, .int si), (2, .int kd), (3, .int ky), (4, .int rf)]) hx hb dL_setReference_16 hl (by decide) rfl (fun ls hl => ?_)
      refine lv_iconst (v := 2) hx hb dL_setReference_18 (by decide) ?_
      exact m_iret X hK hw hS (⟨y, z, Or.inr ⟨Or.inr (Or.inl ⟨rfl, hx9⟩), rfl⟩, hcw, cStep.rf⟩) (by omega) (by omega) dL_setReference_19
    · have hE : E = "java/lang/IllegalStateException" := hE
      subst hE
      refine vx_catch (name := "java/lang/IllegalStateException") hown [⟨0, 9, 12, 13⟩, ⟨0, 9, 16, 15⟩] ⟨0, 9, 20, 21⟩ [] (htab.trans rfl) (List.forall_mem_cons.mpr ⟨Or.inr ⟨by decide, "java/lang/IndexOutOfBoundsException", hts (.classLink RL 13 "java/lang/IndexOutOfBoundsException") (by decide +kernel), hZ.2.2.2.2.2.1 ("java/lang/IllegalStateException", "java/lang/IndexOutOfBoundsException") (by decide)⟩, List.forall_mem_cons.mpr ⟨Or.inr ⟨by decide, "java/lang/IllegalArgumentException", hts (.classLink RL 15 "java/lang/IllegalArgumentException") (by decide +kernel), hZ.2.2.2.2.2.1 ("java/lang/IllegalStateException", "java/lang/IllegalArgumentException") (by decide)⟩, fun _ h => absurd h List.not_mem_nil⟩⟩) rfl (by decide) (hts (.classLink RL 21 "java/lang/IllegalStateException") (by decide +kernel)) (va_Nw.use rfl (hZ.2.2.2.2.1 ("java/lang/IllegalStateException", "java/lang/IllegalStateException") (by decide))) hce hcv hcl9 ?_
      refine lv_astore (lv' := [(5, .ref q9), (0, .ref x), (1, .int si), (2, .int kd), (3, .int ky), (4, .int rf)]) hx hb dL_setReference_20 hl (by decide) rfl (fun ls hl => ?_)
      refine lv_iconst (v := 3) hx hb dL_setReference_22 (by decide) ?_
      exact m_iret X hK hw hS (⟨y, z, Or.inr ⟨Or.inr (Or.inr (⟨rfl, hx9⟩)), rfl⟩, hcw, cStep.rf⟩) (by omega) (by omega) dL_setReference_23
  have hP : ∃ (y1 : cY) (z1 : cZ), CW G dce x ad M1 y1 z1 ∧ cStep ad dce y z M y1 z1 M1 ∧ cP_setReference z si kd ky rf z1 := by
    rcases hp with ⟨i, k, j, a1, a2, a3, a4, a6, a7, y1, ho1, hc1, hs1⟩
    exact ⟨y1, kRf i k j rf z, hc1, hs1, ⟨i, k, j, a1, a2, a3, a4, a6, a7, rfl⟩⟩
  obtain ⟨y1, z1, hc1, hs1, hco⟩ := hP
  refine lv_goto (tgt := 24) hx hb dL_setReference_9 (by decide) ?_
  refine lv_iconst (v := 0) hx hb dL_setReference_24 (by decide) ?_
  exact m_iret X hK hw hS (⟨y1, z1, Or.inl ⟨rfl, hco⟩, hc1, hs1⟩) (by omega) (by omega) dL_setReference_25
set_option maxHeartbeats 4000000 in
set_option maxRecDepth 100000 in
theorem c_L_remove (l : Launch) (G : gG) (dce sz : Nat) (M : gM)  (hlt : l.stackTraces = false) (x : Nat) (ad : Nat → Nat) (y : cY) (z : cZ) (hcw : CW G dce x ad M y z) (heq : cEq z) (oa : Nat) (g0 : Nat → Int64) (hoa : M oa = some (oO G g0)) (si kd ky : Int32) : mI l yL_remove wsL_remove ({ frames := 8, cells := 3, slots := 18, locals := 186 }) G dce sz M [.ref x, .int si, .int kd, .int ky, .ref oa] (fun k M' => ∃ (y1 : cY) (z1 : cZ) (g1 : Nat → Int64), cO_remove z si kd ky k (g1 0) z1 ∧ M' oa = some (oO G g1) ∧ CW G dce x ad M' y1 z1 ∧ ((∀ b e, M b = some e → ¬ cOwn ad y z dce b → b ≠ oa → M' b = some e) ∧ ∀ b, cOwn ad y1 z1 dce b → cOwn ad y z dce b ∨ M b = none)) (3) (18) := by
  have hX9 := hcw.1.1
  refine wMetW (Qc := QI G _) (cc := cL_remove) (maxL := 6) (ret := (some .int)) (hh := [(0, 12, 15, 13), (0, 12, 19, 15), (0, 12, 23, 21)]) (by decide) rfl (Nat.le_of_ble_eq_true rfl) ?_
  intro p e s m below meth c A ls X htab hnm hw hK hZ hA hS hsz eA hl
  obtain ⟨hx, hb, hr, hts, hown, hlk, hml⟩ := id X
  have hl : lv_has ls 6 [(0, .ref x), (1, .int si), (2, .int kd), (3, .int ky), (4, .ref oa)] := hl
  refine lv_aload hx hb dL_remove_0 (lv_at hl 4 rfl) ?_
  refine lv_iconst (v := 0) hx hb dL_remove_2 (by decide) ?_
  refine lv_aload_n hx hb dL_remove_3 rfl (lv_at hl 0 rfl) ?_
  refine lv_iload_n hx hb dL_remove_4 rfl (lv_at hl 1 rfl) ?_
  refine lv_iload_n hx hb dL_remove_5 rfl (lv_at hl 2 rfl) ?_
  refine lv_iload_n hx hb dL_remove_6 rfl (lv_at hl 3 rfl) ?_
  refine x_callVi X (ci := 7) rfl hX9 hK hw hZ hS hA (As := [.int si, .int kd, .int ky]) (rest := [.int 0, .ref oa]) (c_remove l G dce _ M hlt x ad y z hcw heq si kd ky) (cwV 3 hts gL_remove_X6_remove rfl rfl rfl (by decide +kernel) ⟨Nat.le_of_ble_eq_true rfl, Nat.le_of_ble_eq_true rfl⟩) rfl hl.1 rfl (Nat.le_of_ble_eq_true rfl) dL_remove_7 (Nat.le_of_ble_eq_true rfl) (Nat.le_of_ble_eq_true rfl) (fun E ce q9 M1 H locs hp hw hS hz hk hce hcv hcl9 => ?_) (fun r2 M1 H locs hp hw hS hz hk => ?_)
  · obtain ⟨hpx, hM9⟩ := hp
    rw [hM9] at hw
    rcases hpx with ⟨hE, hx9⟩ | ⟨hE, hx9⟩ | ⟨hE, hx9⟩
    · have hE : E = "java/lang/IndexOutOfBoundsException" := hE
      subst hE
      refine vx_catch (name := "java/lang/IndexOutOfBoundsException") hown [] ⟨0, 12, 15, 13⟩ [⟨0, 12, 19, 15⟩, ⟨0, 12, 23, 21⟩] (htab.trans rfl) (fun _ h => absurd h List.not_mem_nil) rfl (by decide) (hts (.classLink RL 13 "java/lang/IndexOutOfBoundsException") (by decide +kernel)) (va_Nw.use rfl (hZ.2.2.2.2.1 ("java/lang/IndexOutOfBoundsException", "java/lang/IndexOutOfBoundsException") (by decide))) hce hcv hcl9 ?_
      refine lv_astore (lv' := [(5, .ref q9), (0, .ref x), (1, .int si), (2, .int kd), (3, .int ky), (4, .ref oa)]) hx hb dL_remove_15 hl (by decide) rfl (fun ls hl => ?_)
      refine lv_iconst (v := 1) hx hb dL_remove_17 (by decide) ?_
      exact m_iret X hK hw hS (⟨y, z, g0, Or.inr ⟨Or.inl ⟨rfl, hx9⟩, rfl⟩, hoa, hcw, cStep.rf.w⟩) (by omega) (by omega) dL_remove_18
    · have hE : E = "java/lang/IllegalArgumentException" := hE
      subst hE
      refine vx_catch (name := "java/lang/IllegalArgumentException") hown [⟨0, 12, 15, 13⟩] ⟨0, 12, 19, 15⟩ [⟨0, 12, 23, 21⟩] (htab.trans rfl) (List.forall_mem_cons.mpr ⟨Or.inr ⟨by decide, "java/lang/IndexOutOfBoundsException", hts (.classLink RL 13 "java/lang/IndexOutOfBoundsException") (by decide +kernel), hZ.2.2.2.2.2.1 ("java/lang/IllegalArgumentException", "java/lang/IndexOutOfBoundsException") (by decide)⟩, fun _ h => absurd h List.not_mem_nil⟩) rfl (by decide) (hts (.classLink RL 15 "java/lang/IllegalArgumentException") (by decide +kernel)) (va_Nw.use rfl (hZ.2.2.2.2.1 ("java/lang/IllegalArgumentException", "java/lang/IllegalArgumentException") (by decide))) hce hcv hcl9 ?_
      refine lv_astore (lv' := [(5, .ref q9), (0, .ref x), (1, .int si), (2, .int kd), (3, .int ky), (4, .ref oa)]) hx hb dL_remove_19 hl (by decide) rfl (fun ls hl => ?_)
      refine lv_iconst (v := 2) hx hb dL_remove_21 (by decide) ?_
      exact m_iret X hK hw hS (⟨y, z, g0, Or.inr ⟨Or.inr (Or.inl ⟨rfl, hx9⟩), rfl⟩, hoa, hcw, cStep.rf.w⟩) (by omega) (by omega) dL_remove_22
    · have hE : E = "java/lang/IllegalStateException" := hE
      subst hE
      refine vx_catch (name := "java/lang/IllegalStateException") hown [⟨0, 12, 15, 13⟩, ⟨0, 12, 19, 15⟩] ⟨0, 12, 23, 21⟩ [] (htab.trans rfl) (List.forall_mem_cons.mpr ⟨Or.inr ⟨by decide, "java/lang/IndexOutOfBoundsException", hts (.classLink RL 13 "java/lang/IndexOutOfBoundsException") (by decide +kernel), hZ.2.2.2.2.2.1 ("java/lang/IllegalStateException", "java/lang/IndexOutOfBoundsException") (by decide)⟩, List.forall_mem_cons.mpr ⟨Or.inr ⟨by decide, "java/lang/IllegalArgumentException", hts (.classLink RL 15 "java/lang/IllegalArgumentException") (by decide +kernel), hZ.2.2.2.2.2.1 ("java/lang/IllegalStateException", "java/lang/IllegalArgumentException") (by decide)⟩, fun _ h => absurd h List.not_mem_nil⟩⟩) rfl (by decide) (hts (.classLink RL 21 "java/lang/IllegalStateException") (by decide +kernel)) (va_Nw.use rfl (hZ.2.2.2.2.1 ("java/lang/IllegalStateException", "java/lang/IllegalStateException") (by decide))) hce hcv hcl9 ?_
      refine lv_astore (lv' := [(5, .ref q9), (0, .ref x), (1, .int si), (2, .int kd), (3, .int ky), (4, .ref oa)]) hx hb dL_remove_23 hl (by decide) rfl (fun ls hl => ?_)
      refine lv_iconst (v := 3) hx hb dL_remove_25 (by decide) ?_
      exact m_iret X hK hw hS (⟨y, z, g0, Or.inr ⟨Or.inr (Or.inr (⟨rfl, hx9⟩)), rfl⟩, hoa, hcw, cStep.rf.w⟩) (by omega) (by omega) dL_remove_26
  obtain ⟨r9, er9⟩ : ∃ r9, r9 = r2 := ⟨_, rfl⟩
  rw [← er9] at hp
  rw [← er9]
  have hP : ∃ (y1 : cY) (z1 : cZ), CW G dce x ad M1 y1 z1 ∧ cStep ad dce y z M y1 z1 M1 ∧ cP_remove z si kd ky r9 z1 := by
    rcases hp with ⟨i, k, j, a1, a2, a3, a4, (⟨a6, a7, y1, ho1, hc1, hs1⟩ | ⟨a6, a7, y1, ho1, hc1, hs1⟩)⟩
    · exact ⟨y1, kRmA i j z, hc1, hs1, ⟨i, k, j, a1, a2, a3, a4, Or.inl ⟨a6, a7, rfl⟩⟩⟩
    · exact ⟨y1, kRmB i j z, hc1, hs1, ⟨i, k, j, a1, a2, a3, a4, Or.inr ⟨a6, a7, rfl⟩⟩⟩
  obtain ⟨y1, z1, hc1, hs1, hco⟩ := hP
  have ho1 : M1 oa = some (.inl (G.2 2, 1, .inr (.inl g0))) := hs1.1 oa _ hoa (hcw.nO hoa)
  refine lv_i2l hx hb dL_remove_10 rfl ?_
  refine m_last X hK hw hS ho1 (i := 0) (by unfold vp_in; decide) dL_remove_11 (fun M3 H locs eM3 hw hS => ?_)
  refine lv_goto (tgt := 27) hx hb dL_remove_12 (by decide) ?_
  refine lv_iconst (v := 0) hx hb dL_remove_27 (by decide) ?_
  have hT := hcw.tO hoa hc1 hs1 eM3
  exact m_iret X hK hw hS (⟨y1, z1, _, Or.inl ⟨rfl, r9, rfl, hco⟩, hT⟩) (by omega) (by omega) dL_remove_28
set_option maxHeartbeats 4000000 in
set_option maxRecDepth 100000 in
theorem c_L_name (l : Launch) (G : gG) (dce sz : Nat) (M : gM)  (hlt : l.stackTraces = false) (x : Nat) (ad : Nat → Nat) (y : cY) (z : cZ) (hcw : CW G dce x ad M y z) (oa : Nat) (g0 : Nat → Int64) (hoa : M oa = some (oO G g0)) (si kd ky : Int32) : mI l yL_name wsL_name ({ frames := 8, cells := 3, slots := 18, locals := 133 }) G dce sz M [.ref x, .int si, .int kd, .int ky, .ref oa] (fun k M' => ∃ (y1 : cY) (z1 : cZ) (g1 : Nat → Int64), cO_name z si kd ky k (g1 0) z1 ∧ M' oa = some (oO G g1) ∧ CW G dce x ad M' y1 z1 ∧ ((∀ b e, M b = some e → ¬ cOwn ad y z dce b → b ≠ oa → M' b = some e) ∧ ∀ b, cOwn ad y1 z1 dce b → cOwn ad y z dce b ∨ M b = none)) (3) (18) := by
  have hX9 := hcw.1.1
  refine wMetW (Qc := QI G _) (cc := cL_name) (maxL := 6) (ret := (some .int)) (hh := [(0, 12, 15, 13), (0, 12, 19, 15), (0, 12, 23, 21)]) (by decide) rfl (Nat.le_of_ble_eq_true rfl) ?_
  intro p e s m below meth c A ls X htab hnm hw hK hZ hA hS hsz eA hl
  obtain ⟨hx, hb, hr, hts, hown, hlk, hml⟩ := id X
  have hl : lv_has ls 6 [(0, .ref x), (1, .int si), (2, .int kd), (3, .int ky), (4, .ref oa)] := hl
  refine lv_aload hx hb dL_name_0 (lv_at hl 4 rfl) ?_
  refine lv_iconst (v := 0) hx hb dL_name_2 (by decide) ?_
  refine lv_aload_n hx hb dL_name_3 rfl (lv_at hl 0 rfl) ?_
  refine lv_iload_n hx hb dL_name_4 rfl (lv_at hl 1 rfl) ?_
  refine lv_iload_n hx hb dL_name_5 rfl (lv_at hl 2 rfl) ?_
  refine lv_iload_n hx hb dL_name_6 rfl (lv_at hl 3 rfl) ?_
  refine x_callVi X (ci := 7) rfl hX9 hK hw hZ hS hA (As := [.int si, .int kd, .int ky]) (rest := [.int 0, .ref oa]) (c_name l G dce _ M hlt x ad y z hcw si kd ky) (cwV 3 hts gL_name_X6_name rfl rfl rfl (by decide +kernel) ⟨Nat.le_of_ble_eq_true rfl, Nat.le_of_ble_eq_true rfl⟩) rfl hl.1 rfl (Nat.le_of_ble_eq_true rfl) dL_name_7 (Nat.le_of_ble_eq_true rfl) (Nat.le_of_ble_eq_true rfl) (fun E ce q9 M1 H locs hp hw hS hz hk hce hcv hcl9 => ?_) (fun r2 M1 H locs hp hw hS hz hk => ?_)
  · obtain ⟨hpx, hM9⟩ := hp
    rw [hM9] at hw
    rcases hpx with ⟨hE, hx9⟩ | ⟨hE, hx9⟩ | ⟨hE, hx9⟩
    · have hE : E = "java/lang/IndexOutOfBoundsException" := hE
      subst hE
      refine vx_catch (name := "java/lang/IndexOutOfBoundsException") hown [] ⟨0, 12, 15, 13⟩ [⟨0, 12, 19, 15⟩, ⟨0, 12, 23, 21⟩] (htab.trans rfl) (fun _ h => absurd h List.not_mem_nil) rfl (by decide) (hts (.classLink RL 13 "java/lang/IndexOutOfBoundsException") (by decide +kernel)) (va_Nw.use rfl (hZ.2.2.2.2.1 ("java/lang/IndexOutOfBoundsException", "java/lang/IndexOutOfBoundsException") (by decide))) hce hcv hcl9 ?_
      refine lv_astore (lv' := [(5, .ref q9), (0, .ref x), (1, .int si), (2, .int kd), (3, .int ky), (4, .ref oa)]) hx hb dL_name_15 hl (by decide) rfl (fun ls hl => ?_)
      refine lv_iconst (v := 1) hx hb dL_name_17 (by decide) ?_
      exact m_iret X hK hw hS (⟨y, z, g0, Or.inr ⟨Or.inl ⟨rfl, hx9⟩, rfl⟩, hoa, hcw, cStep.rf.w⟩) (by omega) (by omega) dL_name_18
    · have hE : E = "java/lang/IllegalArgumentException" := hE
      subst hE
      refine vx_catch (name := "java/lang/IllegalArgumentException") hown [⟨0, 12, 15, 13⟩] ⟨0, 12, 19, 15⟩ [⟨0, 12, 23, 21⟩] (htab.trans rfl) (List.forall_mem_cons.mpr ⟨Or.inr ⟨by decide, "java/lang/IndexOutOfBoundsException", hts (.classLink RL 13 "java/lang/IndexOutOfBoundsException") (by decide +kernel), hZ.2.2.2.2.2.1 ("java/lang/IllegalArgumentException", "java/lang/IndexOutOfBoundsException") (by decide)⟩, fun _ h => absurd h List.not_mem_nil⟩) rfl (by decide) (hts (.classLink RL 15 "java/lang/IllegalArgumentException") (by decide +kernel)) (va_Nw.use rfl (hZ.2.2.2.2.1 ("java/lang/IllegalArgumentException", "java/lang/IllegalArgumentException") (by decide))) hce hcv hcl9 ?_
      refine lv_astore (lv' := [(5, .ref q9), (0, .ref x), (1, .int si), (2, .int kd), (3, .int ky), (4, .ref oa)]) hx hb dL_name_19 hl (by decide) rfl (fun ls hl => ?_)
      refine lv_iconst (v := 2) hx hb dL_name_21 (by decide) ?_
      exact m_iret X hK hw hS (⟨y, z, g0, Or.inr ⟨Or.inr (Or.inl ⟨rfl, hx9⟩), rfl⟩, hoa, hcw, cStep.rf.w⟩) (by omega) (by omega) dL_name_22
    · have hE : E = "java/lang/IllegalStateException" := hE
      subst hE
      refine vx_catch (name := "java/lang/IllegalStateException") hown [⟨0, 12, 15, 13⟩, ⟨0, 12, 19, 15⟩] ⟨0, 12, 23, 21⟩ [] (htab.trans rfl) (List.forall_mem_cons.mpr ⟨Or.inr ⟨by decide, "java/lang/IndexOutOfBoundsException", hts (.classLink RL 13 "java/lang/IndexOutOfBoundsException") (by decide +kernel), hZ.2.2.2.2.2.1 ("java/lang/IllegalStateException", "java/lang/IndexOutOfBoundsException") (by decide)⟩, List.forall_mem_cons.mpr ⟨Or.inr ⟨by decide, "java/lang/IllegalArgumentException", hts (.classLink RL 15 "java/lang/IllegalArgumentException") (by decide +kernel), hZ.2.2.2.2.2.1 ("java/lang/IllegalStateException", "java/lang/IllegalArgumentException") (by decide)⟩, fun _ h => absurd h List.not_mem_nil⟩⟩) rfl (by decide) (hts (.classLink RL 21 "java/lang/IllegalStateException") (by decide +kernel)) (va_Nw.use rfl (hZ.2.2.2.2.1 ("java/lang/IllegalStateException", "java/lang/IllegalStateException") (by decide))) hce hcv hcl9 ?_
      refine lv_astore (lv' := [(5, .ref q9), (0, .ref x), (1, .int si), (2, .int kd), (3, .int ky), (4, .ref oa)]) hx hb dL_name_23 hl (by decide) rfl (fun ls hl => ?_)
      refine lv_iconst (v := 3) hx hb dL_name_25 (by decide) ?_
      exact m_iret X hK hw hS (⟨y, z, g0, Or.inr ⟨Or.inr (Or.inr (⟨rfl, hx9⟩)), rfl⟩, hoa, hcw, cStep.rf.w⟩) (by omega) (by omega) dL_name_26
  obtain ⟨r9, er9⟩ : ∃ r9, r9 = r2 := ⟨_, rfl⟩
  rw [← er9] at hp
  rw [← er9]
  have hP : ∃ (y1 : cY) (z1 : cZ), CW G dce x ad M1 y1 z1 ∧ cStep ad dce y z M y1 z1 M1 ∧ cP_name z si kd ky r9 z1 := by
    rcases hp with ⟨⟨i, k, j, a1, a2, a3, a4, a6⟩, a5⟩
    exact ⟨y, z, by rw [a5]; exact hcw, by rw [a5]; exact cStep.rf, ⟨i, k, j, a1, a2, a3, a4, a6, rfl⟩⟩
  obtain ⟨y1, z1, hc1, hs1, hco⟩ := hP
  have ho1 : M1 oa = some (.inl (G.2 2, 1, .inr (.inl g0))) := hs1.1 oa _ hoa (hcw.nO hoa)
  refine lv_i2l hx hb dL_name_10 rfl ?_
  refine m_last X hK hw hS ho1 (i := 0) (by unfold vp_in; decide) dL_name_11 (fun M3 H locs eM3 hw hS => ?_)
  refine lv_goto (tgt := 27) hx hb dL_name_12 (by decide) ?_
  refine lv_iconst (v := 0) hx hb dL_name_27 (by decide) ?_
  have hT := hcw.tO hoa hc1 hs1 eM3
  exact m_iret X hK hw hS (⟨y1, z1, _, Or.inl ⟨rfl, r9, rfl, hco⟩, hT⟩) (by omega) (by omega) dL_name_28
set_option maxHeartbeats 4000000 in
set_option maxRecDepth 100000 in
theorem c_L_reference (l : Launch) (G : gG) (dce sz : Nat) (M : gM)  (hlt : l.stackTraces = false) (x : Nat) (ad : Nat → Nat) (y : cY) (z : cZ) (hcw : CW G dce x ad M y z) (oa : Nat) (g0 : Nat → Int64) (hoa : M oa = some (oO G g0)) (si kd ky : Int32) : mI l yL_reference wsL_reference ({ frames := 8, cells := 3, slots := 18, locals := 133 }) G dce sz M [.ref x, .int si, .int kd, .int ky, .ref oa] (fun k M' => ∃ (y1 : cY) (z1 : cZ) (g1 : Nat → Int64), cO_reference z si kd ky k (g1 0) z1 ∧ M' oa = some (oO G g1) ∧ CW G dce x ad M' y1 z1 ∧ ((∀ b e, M b = some e → ¬ cOwn ad y z dce b → b ≠ oa → M' b = some e) ∧ ∀ b, cOwn ad y1 z1 dce b → cOwn ad y z dce b ∨ M b = none)) (3) (18) := by
  have hX9 := hcw.1.1
  refine wMetW (Qc := QI G _) (cc := cL_reference) (maxL := 6) (ret := (some .int)) (hh := [(0, 12, 15, 13), (0, 12, 19, 15), (0, 12, 23, 21)]) (by decide) rfl (Nat.le_of_ble_eq_true rfl) ?_
  intro p e s m below meth c A ls X htab hnm hw hK hZ hA hS hsz eA hl
  obtain ⟨hx, hb, hr, hts, hown, hlk, hml⟩ := id X
  have hl : lv_has ls 6 [(0, .ref x), (1, .int si), (2, .int kd), (3, .int ky), (4, .ref oa)] := hl
  refine lv_aload hx hb dL_reference_0 (lv_at hl 4 rfl) ?_
  refine lv_iconst (v := 0) hx hb dL_reference_2 (by decide) ?_
  refine lv_aload_n hx hb dL_reference_3 rfl (lv_at hl 0 rfl) ?_
  refine lv_iload_n hx hb dL_reference_4 rfl (lv_at hl 1 rfl) ?_
  refine lv_iload_n hx hb dL_reference_5 rfl (lv_at hl 2 rfl) ?_
  refine lv_iload_n hx hb dL_reference_6 rfl (lv_at hl 3 rfl) ?_
  refine x_callVi X (ci := 7) rfl hX9 hK hw hZ hS hA (As := [.int si, .int kd, .int ky]) (rest := [.int 0, .ref oa]) (c_reference l G dce _ M hlt x ad y z hcw si kd ky) (cwV 3 hts gL_reference_X6_reference rfl rfl rfl (by decide +kernel) ⟨Nat.le_of_ble_eq_true rfl, Nat.le_of_ble_eq_true rfl⟩) rfl hl.1 rfl (Nat.le_of_ble_eq_true rfl) dL_reference_7 (Nat.le_of_ble_eq_true rfl) (Nat.le_of_ble_eq_true rfl) (fun E ce q9 M1 H locs hp hw hS hz hk hce hcv hcl9 => ?_) (fun r2 M1 H locs hp hw hS hz hk => ?_)
  · obtain ⟨hpx, hM9⟩ := hp
    rw [hM9] at hw
    rcases hpx with ⟨hE, hx9⟩ | ⟨hE, hx9⟩ | ⟨hE, hx9⟩
    · have hE : E = "java/lang/IndexOutOfBoundsException" := hE
      subst hE
      refine vx_catch (name := "java/lang/IndexOutOfBoundsException") hown [] ⟨0, 12, 15, 13⟩ [⟨0, 12, 19, 15⟩, ⟨0, 12, 23, 21⟩] (htab.trans rfl) (fun _ h => absurd h List.not_mem_nil) rfl (by decide) (hts (.classLink RL 13 "java/lang/IndexOutOfBoundsException") (by decide +kernel)) (va_Nw.use rfl (hZ.2.2.2.2.1 ("java/lang/IndexOutOfBoundsException", "java/lang/IndexOutOfBoundsException") (by decide))) hce hcv hcl9 ?_
      refine lv_astore (lv' := [(5, .ref q9), (0, .ref x), (1, .int si), (2, .int kd), (3, .int ky), (4, .ref oa)]) hx hb dL_reference_15 hl (by decide) rfl (fun ls hl => ?_)
      refine lv_iconst (v := 1) hx hb dL_reference_17 (by decide) ?_
      exact m_iret X hK hw hS (⟨y, z, g0, Or.inr ⟨Or.inl ⟨rfl, hx9⟩, rfl⟩, hoa, hcw, cStep.rf.w⟩) (by omega) (by omega) dL_reference_18
    · have hE : E = "java/lang/IllegalArgumentException" := hE
      subst hE
      refine vx_catch (name := "java/lang/IllegalArgumentException") hown [⟨0, 12, 15, 13⟩] ⟨0, 12, 19, 15⟩ [⟨0, 12, 23, 21⟩] (htab.trans rfl) (List.forall_mem_cons.mpr ⟨Or.inr ⟨by decide, "java/lang/IndexOutOfBoundsException", hts (.classLink RL 13 "java/lang/IndexOutOfBoundsException") (by decide +kernel), hZ.2.2.2.2.2.1 ("java/lang/IllegalArgumentException", "java/lang/IndexOutOfBoundsException") (by decide)⟩, fun _ h => absurd h List.not_mem_nil⟩) rfl (by decide) (hts (.classLink RL 15 "java/lang/IllegalArgumentException") (by decide +kernel)) (va_Nw.use rfl (hZ.2.2.2.2.1 ("java/lang/IllegalArgumentException", "java/lang/IllegalArgumentException") (by decide))) hce hcv hcl9 ?_
      refine lv_astore (lv' := [(5, .ref q9), (0, .ref x), (1, .int si), (2, .int kd), (3, .int ky), (4, .ref oa)]) hx hb dL_reference_19 hl (by decide) rfl (fun ls hl => ?_)
      refine lv_iconst (v := 2) hx hb dL_reference_21 (by decide) ?_
      exact m_iret X hK hw hS (⟨y, z, g0, Or.inr ⟨Or.inr (Or.inl ⟨rfl, hx9⟩), rfl⟩, hoa, hcw, cStep.rf.w⟩) (by omega) (by omega) dL_reference_22
    · have hE : E = "java/lang/IllegalStateException" := hE
      subst hE
      refine vx_catch (name := "java/lang/IllegalStateException") hown [⟨0, 12, 15, 13⟩, ⟨0, 12, 19, 15⟩] ⟨0, 12, 23, 21⟩ [] (htab.trans rfl) (List.forall_mem_cons.mpr ⟨Or.inr ⟨by decide, "java/lang/IndexOutOfBoundsException", hts (.classLink RL 13 "java/lang/IndexOutOfBoundsException") (by decide +kernel), hZ.2.2.2.2.2.1 ("java/lang/IllegalStateException", "java/lang/IndexOutOfBoundsException") (by decide)⟩, List.forall_mem_cons.mpr ⟨Or.inr ⟨by decide, "java/lang/IllegalArgumentException", hts (.classLink RL 15 "java/lang/IllegalArgumentException") (by decide +kernel), hZ.2.2.2.2.2.1 ("java/lang/IllegalStateException", "java/lang/IllegalArgumentException") (by decide)⟩, fun _ h => absurd h List.not_mem_nil⟩⟩) rfl (by decide) (hts (.classLink RL 21 "java/lang/IllegalStateException") (by decide +kernel)) (va_Nw.use rfl (hZ.2.2.2.2.1 ("java/lang/IllegalStateException", "java/lang/IllegalStateException") (by decide))) hce hcv hcl9 ?_
      refine lv_astore (lv' := [(5, .ref q9), (0, .ref x), (1, .int si), (2, .int kd), (3, .int ky), (4, .ref oa)]) hx hb dL_reference_23 hl (by decide) rfl (fun ls hl => ?_)
      refine lv_iconst (v := 3) hx hb dL_reference_25 (by decide) ?_
      exact m_iret X hK hw hS (⟨y, z, g0, Or.inr ⟨Or.inr (Or.inr (⟨rfl, hx9⟩)), rfl⟩, hoa, hcw, cStep.rf.w⟩) (by omega) (by omega) dL_reference_26
  obtain ⟨r9, er9⟩ : ∃ r9, r9 = r2 := ⟨_, rfl⟩
  rw [← er9] at hp
  rw [← er9]
  have hP : ∃ (y1 : cY) (z1 : cZ), CW G dce x ad M1 y1 z1 ∧ cStep ad dce y z M y1 z1 M1 ∧ cP_reference z si kd ky r9 z1 := by
    rcases hp with ⟨⟨i, k, j, a1, a2, a3, a4, a6⟩, a5⟩
    exact ⟨y, z, by rw [a5]; exact hcw, by rw [a5]; exact cStep.rf, ⟨i, k, j, a1, a2, a3, a4, a6, rfl⟩⟩
  obtain ⟨y1, z1, hc1, hs1, hco⟩ := hP
  have ho1 : M1 oa = some (.inl (G.2 2, 1, .inr (.inl g0))) := hs1.1 oa _ hoa (hcw.nO hoa)
  refine lv_i2l hx hb dL_reference_10 rfl ?_
  refine m_last X hK hw hS ho1 (i := 0) (by unfold vp_in; decide) dL_reference_11 (fun M3 H locs eM3 hw hS => ?_)
  refine lv_goto (tgt := 27) hx hb dL_reference_12 (by decide) ?_
  refine lv_iconst (v := 0) hx hb dL_reference_27 (by decide) ?_
  have hT := hcw.tO hoa hc1 hs1 eM3
  exact m_iret X hK hw hS (⟨y1, z1, _, Or.inl ⟨rfl, r9, rfl, hco⟩, hT⟩) (by omega) (by omega) dL_reference_28
set_option maxHeartbeats 4000000 in
set_option maxRecDepth 100000 in
theorem c_L_known (l : Launch) (G : gG) (dce sz : Nat) (M : gM)  (hlt : l.stackTraces = false) (x : Nat) (ad : Nat → Nat) (y : cY) (z : cZ) (hcw : CW G dce x ad M y z) (oa : Nat) (g0 : Nat → Int64) (hoa : M oa = some (oO G g0)) (si : Int32) : mI l yL_known wsL_known ({ frames := 8, cells := 1, slots := 6, locals := 132 }) G dce sz M [.ref x, .int si, .ref oa] (fun k M' => ∃ (y1 : cY) (z1 : cZ) (g1 : Nat → Int64), cO_known z si k (g1 0) z1 ∧ M' oa = some (oO G g1) ∧ CW G dce x ad M' y1 z1 ∧ ((∀ b e, M b = some e → ¬ cOwn ad y z dce b → b ≠ oa → M' b = some e) ∧ ∀ b, cOwn ad y1 z1 dce b → cOwn ad y z dce b ∨ M b = none)) (1) (6) := by
  have hX9 := hcw.1.1
  refine wMetW (Qc := QI G _) (cc := cL_known) (maxL := 4) (ret := (some .int)) (hh := [(0, 9, 12, 13)]) (by decide) rfl (Nat.le_of_ble_eq_true rfl) ?_
  intro p e s m below meth c A ls X htab hnm hw hK hZ hA hS hsz eA hl
  obtain ⟨hx, hb, hr, hts, hown, hlk, hml⟩ := id X
  have hl : lv_has ls 4 [(0, .ref x), (1, .int si), (2, .ref oa)] := hl
  refine lv_aload_n hx hb dL_known_0 rfl (lv_at hl 2 rfl) ?_
  refine lv_iconst (v := 0) hx hb dL_known_1 (by decide) ?_
  refine lv_aload_n hx hb dL_known_2 rfl (lv_at hl 0 rfl) ?_
  refine lv_iload_n hx hb dL_known_3 rfl (lv_at hl 1 rfl) ?_
  refine x_callVi X (ci := 7) rfl hX9 hK hw hZ hS hA (As := [.int si]) (rest := [.int 0, .ref oa]) (c_known l G dce _ M hlt x ad y z hcw si) (cwV 1 hts gL_known_X6_known rfl rfl rfl (by decide +kernel) ⟨Nat.le_of_ble_eq_true rfl, Nat.le_of_ble_eq_true rfl⟩) rfl hl.1 rfl (Nat.le_of_ble_eq_true rfl) dL_known_4 (Nat.le_of_ble_eq_true rfl) (Nat.le_of_ble_eq_true rfl) (fun E ce q9 M1 H locs hp hw hS hz hk hce hcv hcl9 => ?_) (fun r2 M1 H locs hp hw hS hz hk => ?_)
  · obtain ⟨hpx, hM9⟩ := hp
    rw [hM9] at hw
    obtain ⟨hE, hx9⟩ := hpx
    have hE : E = "java/lang/IndexOutOfBoundsException" := hE
    subst hE
    refine vx_catch (name := "java/lang/IndexOutOfBoundsException") hown [] ⟨0, 9, 12, 13⟩ [] (htab.trans rfl) (fun _ h => absurd h List.not_mem_nil) rfl (by decide) (hts (.classLink RL 13 "java/lang/IndexOutOfBoundsException") (by decide +kernel)) (va_Nw.use rfl (hZ.2.2.2.2.1 ("java/lang/IndexOutOfBoundsException", "java/lang/IndexOutOfBoundsException") (by decide))) hce hcv hcl9 ?_
    refine lv_astore_n (lv' := [(3, .ref q9), (0, .ref x), (1, .int si), (2, .ref oa)]) hx hb dL_known_12 rfl hl (by decide) rfl (fun ls hl => ?_)
    refine lv_iconst (v := 1) hx hb dL_known_13 (by decide) ?_
    exact m_iret X hK hw hS (⟨y, z, g0, Or.inr ⟨⟨rfl, hx9⟩, rfl⟩, hoa, hcw, cStep.rf.w⟩) (by omega) (by omega) dL_known_14
  obtain ⟨r9, er9⟩ : ∃ r9, r9 = r2 := ⟨_, rfl⟩
  rw [← er9] at hp
  rw [← er9]
  have hP : ∃ (y1 : cY) (z1 : cZ), CW G dce x ad M1 y1 z1 ∧ cStep ad dce y z M y1 z1 M1 ∧ cP_known z si r9 z1 := by
    rcases hp with ⟨⟨i, a1, a2⟩, a5⟩
    exact ⟨y, z, by rw [a5]; exact hcw, by rw [a5]; exact cStep.rf, ⟨i, a1, a2, rfl⟩⟩
  obtain ⟨y1, z1, hc1, hs1, hco⟩ := hP
  have ho1 : M1 oa = some (.inl (G.2 2, 1, .inr (.inl g0))) := hs1.1 oa _ hoa (hcw.nO hoa)
  refine lv_i2l hx hb dL_known_7 rfl ?_
  refine m_last X hK hw hS ho1 (i := 0) (by unfold vp_in; decide) dL_known_8 (fun M3 H locs eM3 hw hS => ?_)
  refine lv_goto (tgt := 15) hx hb dL_known_9 (by decide) ?_
  refine lv_iconst (v := 0) hx hb dL_known_15 (by decide) ?_
  have hT := hcw.tO hoa hc1 hs1 eM3
  exact m_iret X hK hw hS (⟨y1, z1, _, Or.inl ⟨rfl, r9, rfl, hco⟩, hT⟩) (by omega) (by omega) dL_known_16
set_option maxHeartbeats 4000000 in
set_option maxRecDepth 100000 in
theorem c_L_dirty (l : Launch) (G : gG) (dce sz : Nat) (M : gM)  (hlt : l.stackTraces = false) (x : Nat) (ad : Nat → Nat) (y : cY) (z : cZ) (hcw : CW G dce x ad M y z) (oa : Nat) (g0 : Nat → Int64) (hoa : M oa = some (oO G g0)) (si : Int32) : mI l yL_dirty wsL_dirty ({ frames := 8, cells := 1, slots := 6, locals := 133 }) G dce sz M [.ref x, .int si, .ref oa] (fun k M' => ∃ (y1 : cY) (z1 : cZ) (g1 : Nat → Int64), cO_dirty z si k (g1 0) z1 ∧ M' oa = some (oO G g1) ∧ CW G dce x ad M' y1 z1 ∧ ((∀ b e, M b = some e → ¬ cOwn ad y z dce b → b ≠ oa → M' b = some e) ∧ ∀ b, cOwn ad y1 z1 dce b → cOwn ad y z dce b ∨ M b = none)) (1) (6) := by
  have hX9 := hcw.1.1
  refine wMetW (Qc := QI G _) (cc := cL_dirty) (maxL := 4) (ret := (some .int)) (hh := [(0, 9, 12, 13)]) (by decide) rfl (Nat.le_of_ble_eq_true rfl) ?_
  intro p e s m below meth c A ls X htab hnm hw hK hZ hA hS hsz eA hl
  obtain ⟨hx, hb, hr, hts, hown, hlk, hml⟩ := id X
  have hl : lv_has ls 4 [(0, .ref x), (1, .int si), (2, .ref oa)] := hl
  refine lv_aload_n hx hb dL_dirty_0 rfl (lv_at hl 2 rfl) ?_
  refine lv_iconst (v := 0) hx hb dL_dirty_1 (by decide) ?_
  refine lv_aload_n hx hb dL_dirty_2 rfl (lv_at hl 0 rfl) ?_
  refine lv_iload_n hx hb dL_dirty_3 rfl (lv_at hl 1 rfl) ?_
  refine x_callVi X (ci := 7) rfl hX9 hK hw hZ hS hA (As := [.int si]) (rest := [.int 0, .ref oa]) (c_dirty l G dce _ M hlt x ad y z hcw si) (cwV 1 hts gL_dirty_X6_dirty rfl rfl rfl (by decide +kernel) ⟨Nat.le_of_ble_eq_true rfl, Nat.le_of_ble_eq_true rfl⟩) rfl hl.1 rfl (Nat.le_of_ble_eq_true rfl) dL_dirty_4 (Nat.le_of_ble_eq_true rfl) (Nat.le_of_ble_eq_true rfl) (fun E ce q9 M1 H locs hp hw hS hz hk hce hcv hcl9 => ?_) (fun r2 M1 H locs hp hw hS hz hk => ?_)
  · obtain ⟨hpx, hM9⟩ := hp
    rw [hM9] at hw
    obtain ⟨hE, hx9⟩ := hpx
    have hE : E = "java/lang/IndexOutOfBoundsException" := hE
    subst hE
    refine vx_catch (name := "java/lang/IndexOutOfBoundsException") hown [] ⟨0, 9, 12, 13⟩ [] (htab.trans rfl) (fun _ h => absurd h List.not_mem_nil) rfl (by decide) (hts (.classLink RL 13 "java/lang/IndexOutOfBoundsException") (by decide +kernel)) (va_Nw.use rfl (hZ.2.2.2.2.1 ("java/lang/IndexOutOfBoundsException", "java/lang/IndexOutOfBoundsException") (by decide))) hce hcv hcl9 ?_
    refine lv_astore_n (lv' := [(3, .ref q9), (0, .ref x), (1, .int si), (2, .ref oa)]) hx hb dL_dirty_12 rfl hl (by decide) rfl (fun ls hl => ?_)
    refine lv_iconst (v := 1) hx hb dL_dirty_13 (by decide) ?_
    exact m_iret X hK hw hS (⟨y, z, g0, Or.inr ⟨⟨rfl, hx9⟩, rfl⟩, hoa, hcw, cStep.rf.w⟩) (by omega) (by omega) dL_dirty_14
  obtain ⟨r9, er9⟩ : ∃ r9, r9 = r2 := ⟨_, rfl⟩
  rw [← er9] at hp
  rw [← er9]
  have hP : ∃ (y1 : cY) (z1 : cZ), CW G dce x ad M1 y1 z1 ∧ cStep ad dce y z M y1 z1 M1 ∧ cP_dirty z si r9 z1 := by
    rcases hp with ⟨⟨i, a1, a2⟩, a5⟩
    exact ⟨y, z, by rw [a5]; exact hcw, by rw [a5]; exact cStep.rf, ⟨i, a1, a2, rfl⟩⟩
  obtain ⟨y1, z1, hc1, hs1, hco⟩ := hP
  have ho1 : M1 oa = some (.inl (G.2 2, 1, .inr (.inl g0))) := hs1.1 oa _ hoa (hcw.nO hoa)
  refine lv_i2l hx hb dL_dirty_7 rfl ?_
  refine m_last X hK hw hS ho1 (i := 0) (by unfold vp_in; decide) dL_dirty_8 (fun M3 H locs eM3 hw hS => ?_)
  refine lv_goto (tgt := 15) hx hb dL_dirty_9 (by decide) ?_
  refine lv_iconst (v := 0) hx hb dL_dirty_15 (by decide) ?_
  have hT := hcw.tO hoa hc1 hs1 eM3
  exact m_iret X hK hw hS (⟨y1, z1, _, Or.inl ⟨rfl, r9, rfl, hco⟩, hT⟩) (by omega) (by omega) dL_dirty_16
set_option maxHeartbeats 4000000 in
set_option maxRecDepth 100000 in
theorem c_L_flush (l : Launch) (G : gG) (dce sz : Nat) (M : gM)  (hlt : l.stackTraces = false) (x : Nat) (ad : Nat → Nat) (y : cY) (z : cZ) (hcw : CW G dce x ad M y z) (heq : cEq z) (oa : Nat) (g0 : Nat → Int64) (hoa : M oa = some (oO G g0)) (si : Int32) (kc ks : Nat) (hkc : ∀ i, si = nI i → i < 3 → zW z < 4096 → (kCla i z || kDan i z) = false → zC (kFl i z) - zC z + 3 ≤ kc) (hks : ∀ i, si = nI i → i < 3 → zW z < 4096 → (kCla i z || kDan i z) = false → 4 * (zC (kFl i z) - zC z) + 16 ≤ ks) (hk2 : 3 ≤ kc) (hk10 : 16 ≤ ks) : mI l yL_flush wsL_flush ({ frames := 8, cells := kc, slots := ks, locals := 187 }) G dce sz M [.ref x, .int si, .ref oa] (fun k M' => ∃ (y1 : cY) (z1 : cZ) (g1 : Nat → Int64), cO_flush z si k (g1 0) z1 ∧ M' oa = some (oO G g1) ∧ CW G dce x ad M' y1 z1 ∧ ((∀ b e, M b = some e → ¬ cOwn ad y z dce b → b ≠ oa → M' b = some e) ∧ ∀ b, cOwn ad y1 z1 dce b → cOwn ad y z dce b ∨ M b = none)) (kc) (ks) := by
  have hX9 := hcw.1.1
  refine wMetW (Qc := QI G _) (cc := cL_flush) (maxL := 4) (ret := (some .int)) (hh := [(0, 9, 12, 13), (0, 9, 15, 21)]) (by decide) rfl (Nat.le_of_ble_eq_true rfl) ?_
  intro p e s m below meth c A ls X htab hnm hw hK hZ hA hS hsz eA hl
  obtain ⟨hx, hb, hr, hts, hown, hlk, hml⟩ := id X
  have hl : lv_has ls 4 [(0, .ref x), (1, .int si), (2, .ref oa)] := hl
  refine lv_aload_n hx hb dL_flush_0 rfl (lv_at hl 2 rfl) ?_
  refine lv_iconst (v := 0) hx hb dL_flush_1 (by decide) ?_
  refine lv_aload_n hx hb dL_flush_2 rfl (lv_at hl 0 rfl) ?_
  refine lv_iload_n hx hb dL_flush_3 rfl (lv_at hl 1 rfl) ?_
  refine x_callVi X (ci := 7) rfl hX9 hK hw hZ hS hA (As := [.int si]) (rest := [.int 0, .ref oa]) (c_flush l G dce _ M hlt x ad y z hcw heq si kc ks hkc hks hk2 hk10) (cwV 1 hts gL_flush_X6_flush rfl rfl rfl (by decide +kernel) ⟨Nat.le_of_ble_eq_true rfl, Nat.le_of_ble_eq_true rfl⟩) rfl hl.1 rfl (Nat.le_of_ble_eq_true rfl) dL_flush_4 (by dsimp only; omega) (by dsimp only; omega) (fun E ce q9 M1 H locs hp hw hS hz hk hce hcv hcl9 => ?_) (fun r2 M1 H locs hp hw hS hz hk => ?_)
  · obtain ⟨hpx, y1, ho9, hc1, hs1⟩ := hp
    rcases hpx with ⟨hE, hx9⟩ | ⟨hE, hx9⟩
    · have hE : E = "java/lang/IndexOutOfBoundsException" := hE
      subst hE
      refine vx_catch (name := "java/lang/IndexOutOfBoundsException") hown [] ⟨0, 9, 12, 13⟩ [⟨0, 9, 15, 21⟩] (htab.trans rfl) (fun _ h => absurd h List.not_mem_nil) rfl (by decide) (hts (.classLink RL 13 "java/lang/IndexOutOfBoundsException") (by decide +kernel)) (va_Nw.use rfl (hZ.2.2.2.2.1 ("java/lang/IndexOutOfBoundsException", "java/lang/IndexOutOfBoundsException") (by decide))) hce hcv hcl9 ?_
      refine lv_astore_n (lv' := [(3, .ref q9), (0, .ref x), (1, .int si), (2, .ref oa)]) hx hb dL_flush_12 rfl hl (by decide) rfl (fun ls hl => ?_)
      refine lv_iconst (v := 1) hx hb dL_flush_13 (by decide) ?_
      exact m_iret X hK hw hS (⟨y1, z, g0, Or.inr ⟨Or.inl ⟨rfl, hx9⟩, rfl⟩, hs1.1 oa _ hoa (hcw.nO hoa), hc1, hs1.w⟩) (by omega) (by omega) dL_flush_14
    · have hE : E = "java/lang/IllegalStateException" := hE
      subst hE
      refine vx_catch (name := "java/lang/IllegalStateException") hown [⟨0, 9, 12, 13⟩] ⟨0, 9, 15, 21⟩ [] (htab.trans rfl) (List.forall_mem_cons.mpr ⟨Or.inr ⟨by decide, "java/lang/IndexOutOfBoundsException", hts (.classLink RL 13 "java/lang/IndexOutOfBoundsException") (by decide +kernel), hZ.2.2.2.2.2.1 ("java/lang/IllegalStateException", "java/lang/IndexOutOfBoundsException") (by decide)⟩, fun _ h => absurd h List.not_mem_nil⟩) rfl (by decide) (hts (.classLink RL 21 "java/lang/IllegalStateException") (by decide +kernel)) (va_Nw.use rfl (hZ.2.2.2.2.1 ("java/lang/IllegalStateException", "java/lang/IllegalStateException") (by decide))) hce hcv hcl9 ?_
      refine lv_astore_n (lv' := [(3, .ref q9), (0, .ref x), (1, .int si), (2, .ref oa)]) hx hb dL_flush_15 rfl hl (by decide) rfl (fun ls hl => ?_)
      refine lv_iconst (v := 2) hx hb dL_flush_16 (by decide) ?_
      exact m_iret X hK hw hS (⟨y1, z, g0, Or.inr ⟨Or.inr (⟨rfl, hx9⟩), rfl⟩, hs1.1 oa _ hoa (hcw.nO hoa), hc1, hs1.w⟩) (by omega) (by omega) dL_flush_17
  obtain ⟨r9, er9⟩ : ∃ r9, r9 = r2 := ⟨_, rfl⟩
  rw [← er9] at hp
  rw [← er9]
  have hP : ∃ (y1 : cY) (z1 : cZ), CW G dce x ad M1 y1 z1 ∧ cStep ad dce y z M y1 z1 M1 ∧ cP_flush z si r9 z1 := by
    rcases hp with ⟨i, a1, a2, a3, a4, y1, ho1, hc1, hs1⟩
    exact ⟨y1, kFl i z, hc1, hs1, ⟨i, a1, a2, a3, a4, rfl⟩⟩
  obtain ⟨y1, z1, hc1, hs1, hco⟩ := hP
  have ho1 : M1 oa = some (.inl (G.2 2, 1, .inr (.inl g0))) := hs1.1 oa _ hoa (hcw.nO hoa)
  refine lv_i2l hx hb dL_flush_7 rfl ?_
  refine m_last X hK hw hS ho1 (i := 0) (by unfold vp_in; decide) dL_flush_8 (fun M3 H locs eM3 hw hS => ?_)
  refine lv_goto (tgt := 18) hx hb dL_flush_9 (by decide) ?_
  refine lv_iconst (v := 0) hx hb dL_flush_18 (by decide) ?_
  have hT := hcw.tO hoa hc1 hs1 eM3
  exact m_iret X hK hw hS (⟨y1, z1, _, Or.inl ⟨rfl, r9, rfl, hco⟩, hT⟩) (by omega) (by omega) dL_flush_19
set_option maxHeartbeats 4000000 in
set_option maxRecDepth 100000 in
theorem c_L_clear (l : Launch) (G : gG) (dce sz : Nat) (M : gM)  (hlt : l.stackTraces = false) (x : Nat) (ad : Nat → Nat) (y : cY) (z : cZ) (hcw : CW G dce x ad M y z) (oa : Nat) (g0 : Nat → Int64) (hoa : M oa = some (oO G g0)) (si : Int32) : mI l yL_clear wsL_clear ({ frames := 8, cells := 1, slots := 6, locals := 133 }) G dce sz M [.ref x, .int si, .ref oa] (fun k M' => ∃ (y1 : cY) (z1 : cZ) (g1 : Nat → Int64), cO_clear z si k (g1 0) z1 ∧ M' oa = some (oO G g1) ∧ CW G dce x ad M' y1 z1 ∧ ((∀ b e, M b = some e → ¬ cOwn ad y z dce b → b ≠ oa → M' b = some e) ∧ ∀ b, cOwn ad y1 z1 dce b → cOwn ad y z dce b ∨ M b = none)) (1) (6) := by
  have hX9 := hcw.1.1
  refine wMetW (Qc := QI G _) (cc := cL_clear) (maxL := 4) (ret := (some .int)) (hh := [(0, 9, 12, 13)]) (by decide) rfl (Nat.le_of_ble_eq_true rfl) ?_
  intro p e s m below meth c A ls X htab hnm hw hK hZ hA hS hsz eA hl
  obtain ⟨hx, hb, hr, hts, hown, hlk, hml⟩ := id X
  have hl : lv_has ls 4 [(0, .ref x), (1, .int si), (2, .ref oa)] := hl
  refine lv_aload_n hx hb dL_clear_0 rfl (lv_at hl 2 rfl) ?_
  refine lv_iconst (v := 0) hx hb dL_clear_1 (by decide) ?_
  refine lv_aload_n hx hb dL_clear_2 rfl (lv_at hl 0 rfl) ?_
  refine lv_iload_n hx hb dL_clear_3 rfl (lv_at hl 1 rfl) ?_
  refine x_callVi X (ci := 7) rfl hX9 hK hw hZ hS hA (As := [.int si]) (rest := [.int 0, .ref oa]) (c_clear l G dce _ M hlt x ad y z hcw si) (cwV 1 hts gL_clear_X6_clear rfl rfl rfl (by decide +kernel) ⟨Nat.le_of_ble_eq_true rfl, Nat.le_of_ble_eq_true rfl⟩) rfl hl.1 rfl (Nat.le_of_ble_eq_true rfl) dL_clear_4 (Nat.le_of_ble_eq_true rfl) (Nat.le_of_ble_eq_true rfl) (fun E ce q9 M1 H locs hp hw hS hz hk hce hcv hcl9 => ?_) (fun r2 M1 H locs hp hw hS hz hk => ?_)
  · obtain ⟨hpx, hM9⟩ := hp
    rw [hM9] at hw
    obtain ⟨hE, hx9⟩ := hpx
    have hE : E = "java/lang/IndexOutOfBoundsException" := hE
    subst hE
    refine vx_catch (name := "java/lang/IndexOutOfBoundsException") hown [] ⟨0, 9, 12, 13⟩ [] (htab.trans rfl) (fun _ h => absurd h List.not_mem_nil) rfl (by decide) (hts (.classLink RL 13 "java/lang/IndexOutOfBoundsException") (by decide +kernel)) (va_Nw.use rfl (hZ.2.2.2.2.1 ("java/lang/IndexOutOfBoundsException", "java/lang/IndexOutOfBoundsException") (by decide))) hce hcv hcl9 ?_
    refine lv_astore_n (lv' := [(3, .ref q9), (0, .ref x), (1, .int si), (2, .ref oa)]) hx hb dL_clear_12 rfl hl (by decide) rfl (fun ls hl => ?_)
    refine lv_iconst (v := 1) hx hb dL_clear_13 (by decide) ?_
    exact m_iret X hK hw hS (⟨y, z, g0, Or.inr ⟨⟨rfl, hx9⟩, rfl⟩, hoa, hcw, cStep.rf.w⟩) (by omega) (by omega) dL_clear_14
  obtain ⟨r9, er9⟩ : ∃ r9, r9 = r2 := ⟨_, rfl⟩
  rw [← er9] at hp
  rw [← er9]
  have hP : ∃ (y1 : cY) (z1 : cZ), CW G dce x ad M1 y1 z1 ∧ cStep ad dce y z M y1 z1 M1 ∧ cP_clear z si r9 z1 := by
    rcases hp with ⟨i, a1, a3, y1, ho1, hc1, hs1⟩
    exact ⟨y1, itr (kFg i 1) (zN z (sL i 1)) (itr (kFg i 0) (zN z (sL i 0)) z), hc1, hs1, ⟨i, a1, a3, rfl⟩⟩
  obtain ⟨y1, z1, hc1, hs1, hco⟩ := hP
  have ho1 : M1 oa = some (.inl (G.2 2, 1, .inr (.inl g0))) := hs1.1 oa _ hoa (hcw.nO hoa)
  refine lv_i2l hx hb dL_clear_7 rfl ?_
  refine m_last X hK hw hS ho1 (i := 0) (by unfold vp_in; decide) dL_clear_8 (fun M3 H locs eM3 hw hS => ?_)
  refine lv_goto (tgt := 15) hx hb dL_clear_9 (by decide) ?_
  refine lv_iconst (v := 0) hx hb dL_clear_15 (by decide) ?_
  have hT := hcw.tO hoa hc1 hs1 eM3
  exact m_iret X hK hw hS (⟨y1, z1, _, Or.inl ⟨rfl, r9, rfl, hco⟩, hT⟩) (by omega) (by omega) dL_clear_16
set_option maxHeartbeats 4000000 in
set_option maxRecDepth 100000 in
theorem c_L_rows (l : Launch) (G : gG) (dce sz : Nat) (M : gM)  (hlt : l.stackTraces = false) (x : Nat) (ad : Nat → Nat) (y : cY) (z : cZ) (hcw : CW G dce x ad M y z) (oa : Nat) (g0 : Nat → Int64) (hoa : M oa = some (oO G g0)) (kd : Int32) : mI l yL_rows wsL_rows ({ frames := 8, cells := 1, slots := 6, locals := 128 }) G dce sz M [.ref x, .int kd, .ref oa] (fun k M' => ∃ (y1 : cY) (z1 : cZ) (g1 : Nat → Int64), cO_rows z kd k (g1 0) z1 ∧ M' oa = some (oO G g1) ∧ CW G dce x ad M' y1 z1 ∧ ((∀ b e, M b = some e → ¬ cOwn ad y z dce b → b ≠ oa → M' b = some e) ∧ ∀ b, cOwn ad y1 z1 dce b → cOwn ad y z dce b ∨ M b = none)) (1) (6) := by
  have hX9 := hcw.1.1
  refine wMetW (Qc := QI G _) (cc := cL_rows) (maxL := 4) (ret := (some .int)) (hh := [(0, 9, 12, 15)]) (by decide) rfl (Nat.le_of_ble_eq_true rfl) ?_
  intro p e s m below meth c A ls X htab hnm hw hK hZ hA hS hsz eA hl
  obtain ⟨hx, hb, hr, hts, hown, hlk, hml⟩ := id X
  have hl : lv_has ls 4 [(0, .ref x), (1, .int kd), (2, .ref oa)] := hl
  refine lv_aload_n hx hb dL_rows_0 rfl (lv_at hl 2 rfl) ?_
  refine lv_iconst (v := 0) hx hb dL_rows_1 (by decide) ?_
  refine lv_aload_n hx hb dL_rows_2 rfl (lv_at hl 0 rfl) ?_
  refine lv_iload_n hx hb dL_rows_3 rfl (lv_at hl 1 rfl) ?_
  refine x_callVi X (ci := 7) rfl hX9 hK hw hZ hS hA (As := [.int kd]) (rest := [.int 0, .ref oa]) (c_rows l G dce _ M hlt x ad y z hcw kd) (cwV 1 hts gL_rows_X6_rows rfl rfl rfl (by decide +kernel) ⟨Nat.le_of_ble_eq_true rfl, Nat.le_of_ble_eq_true rfl⟩) rfl hl.1 rfl (Nat.le_of_ble_eq_true rfl) dL_rows_4 (Nat.le_of_ble_eq_true rfl) (Nat.le_of_ble_eq_true rfl) (fun E ce q9 M1 H locs hp hw hS hz hk hce hcv hcl9 => ?_) (fun r2 M1 H locs hp hw hS hz hk => ?_)
  · obtain ⟨hpx, hM9⟩ := hp
    rw [hM9] at hw
    obtain ⟨hE, hx9⟩ := hpx
    have hE : E = "java/lang/IllegalArgumentException" := hE
    subst hE
    refine vx_catch (name := "java/lang/IllegalArgumentException") hown [] ⟨0, 9, 12, 15⟩ [] (htab.trans rfl) (fun _ h => absurd h List.not_mem_nil) rfl (by decide) (hts (.classLink RL 15 "java/lang/IllegalArgumentException") (by decide +kernel)) (va_Nw.use rfl (hZ.2.2.2.2.1 ("java/lang/IllegalArgumentException", "java/lang/IllegalArgumentException") (by decide))) hce hcv hcl9 ?_
    refine lv_astore_n (lv' := [(3, .ref q9), (0, .ref x), (1, .int kd), (2, .ref oa)]) hx hb dL_rows_12 rfl hl (by decide) rfl (fun ls hl => ?_)
    refine lv_iconst (v := 1) hx hb dL_rows_13 (by decide) ?_
    exact m_iret X hK hw hS (⟨y, z, g0, Or.inr ⟨⟨rfl, hx9⟩, rfl⟩, hoa, hcw, cStep.rf.w⟩) (by omega) (by omega) dL_rows_14
  obtain ⟨r9, er9⟩ : ∃ r9, r9 = r2 := ⟨_, rfl⟩
  rw [← er9] at hp
  rw [← er9]
  have hP : ∃ (y1 : cY) (z1 : cZ), CW G dce x ad M1 y1 z1 ∧ cStep ad dce y z M y1 z1 M1 ∧ cP_rows z kd r9 z1 := by
    rcases hp with ⟨⟨i, a1, a2⟩, a5⟩
    exact ⟨y, z, by rw [a5]; exact hcw, by rw [a5]; exact cStep.rf, ⟨i, a1, a2, rfl⟩⟩
  obtain ⟨y1, z1, hc1, hs1, hco⟩ := hP
  have ho1 : M1 oa = some (.inl (G.2 2, 1, .inr (.inl g0))) := hs1.1 oa _ hoa (hcw.nO hoa)
  refine lv_i2l hx hb dL_rows_7 rfl ?_
  refine m_last X hK hw hS ho1 (i := 0) (by unfold vp_in; decide) dL_rows_8 (fun M3 H locs eM3 hw hS => ?_)
  refine lv_goto (tgt := 15) hx hb dL_rows_9 (by decide) ?_
  refine lv_iconst (v := 0) hx hb dL_rows_15 (by decide) ?_
  have hT := hcw.tO hoa hc1 hs1 eM3
  exact m_iret X hK hw hS (⟨y1, z1, _, Or.inl ⟨rfl, r9, rfl, hco⟩, hT⟩) (by omega) (by omega) dL_rows_16
set_option maxHeartbeats 4000000 in
set_option maxRecDepth 100000 in
theorem c_L_rowName (l : Launch) (G : gG) (dce sz : Nat) (M : gM)  (hlt : l.stackTraces = false) (x : Nat) (ad : Nat → Nat) (y : cY) (z : cZ) (hcw : CW G dce x ad M y z) (oa : Nat) (g0 : Nat → Int64) (hoa : M oa = some (oO G g0)) (kd ky : Int32) : mI l yL_rowName wsL_rowName ({ frames := 9, cells := 2, slots := 12, locals := 147 }) G dce sz M [.ref x, .int kd, .int ky, .ref oa] (fun k M' => ∃ (y1 : cY) (z1 : cZ) (g1 : Nat → Int64), cO_rowName z kd ky k (g1 0) z1 ∧ M' oa = some (oO G g1) ∧ CW G dce x ad M' y1 z1 ∧ ((∀ b e, M b = some e → ¬ cOwn ad y z dce b → b ≠ oa → M' b = some e) ∧ ∀ b, cOwn ad y1 z1 dce b → cOwn ad y z dce b ∨ M b = none)) (2) (12) := by
  have hX9 := hcw.1.1
  refine wMetW (Qc := QI G _) (cc := cL_rowName) (maxL := 5) (ret := (some .int)) (hh := [(0, 10, 13, 15), (0, 10, 17, 13)]) (by decide) rfl (Nat.le_of_ble_eq_true rfl) ?_
  intro p e s m below meth c A ls X htab hnm hw hK hZ hA hS hsz eA hl
  obtain ⟨hx, hb, hr, hts, hown, hlk, hml⟩ := id X
  have hl : lv_has ls 5 [(0, .ref x), (1, .int kd), (2, .int ky), (3, .ref oa)] := hl
  refine lv_aload_n hx hb dL_rowName_0 rfl (lv_at hl 3 rfl) ?_
  refine lv_iconst (v := 0) hx hb dL_rowName_1 (by decide) ?_
  refine lv_aload_n hx hb dL_rowName_2 rfl (lv_at hl 0 rfl) ?_
  refine lv_iload_n hx hb dL_rowName_3 rfl (lv_at hl 1 rfl) ?_
  refine lv_iload_n hx hb dL_rowName_4 rfl (lv_at hl 2 rfl) ?_
  refine x_callVi X (ci := 7) rfl hX9 hK hw hZ hS hA (As := [.int kd, .int ky]) (rest := [.int 0, .ref oa]) (c_rowName l G dce _ M hlt x ad y z hcw kd ky) (cwV 2 hts gL_rowName_X6_rowName rfl rfl rfl (by decide +kernel) ⟨Nat.le_of_ble_eq_true rfl, Nat.le_of_ble_eq_true rfl⟩) rfl hl.1 rfl (Nat.le_of_ble_eq_true rfl) dL_rowName_5 (Nat.le_of_ble_eq_true rfl) (Nat.le_of_ble_eq_true rfl) (fun E ce q9 M1 H locs hp hw hS hz hk hce hcv hcl9 => ?_) (fun r2 M1 H locs hp hw hS hz hk => ?_)
  · obtain ⟨hpx, hM9⟩ := hp
    rw [hM9] at hw
    rcases hpx with ⟨hE, hx9⟩ | ⟨hE, hx9⟩
    · have hE : E = "java/lang/IllegalArgumentException" := hE
      subst hE
      refine vx_catch (name := "java/lang/IllegalArgumentException") hown [] ⟨0, 10, 13, 15⟩ [⟨0, 10, 17, 13⟩] (htab.trans rfl) (fun _ h => absurd h List.not_mem_nil) rfl (by decide) (hts (.classLink RL 15 "java/lang/IllegalArgumentException") (by decide +kernel)) (va_Nw.use rfl (hZ.2.2.2.2.1 ("java/lang/IllegalArgumentException", "java/lang/IllegalArgumentException") (by decide))) hce hcv hcl9 ?_
      refine lv_astore (lv' := [(4, .ref q9), (0, .ref x), (1, .int kd), (2, .int ky), (3, .ref oa)]) hx hb dL_rowName_13 hl (by decide) rfl (fun ls hl => ?_)
      refine lv_iconst (v := 1) hx hb dL_rowName_15 (by decide) ?_
      exact m_iret X hK hw hS (⟨y, z, g0, Or.inr ⟨Or.inl ⟨rfl, hx9⟩, rfl⟩, hoa, hcw, cStep.rf.w⟩) (by omega) (by omega) dL_rowName_16
    · have hE : E = "java/lang/IndexOutOfBoundsException" := hE
      subst hE
      refine vx_catch (name := "java/lang/IndexOutOfBoundsException") hown [⟨0, 10, 13, 15⟩] ⟨0, 10, 17, 13⟩ [] (htab.trans rfl) (List.forall_mem_cons.mpr ⟨Or.inr ⟨by decide, "java/lang/IllegalArgumentException", hts (.classLink RL 15 "java/lang/IllegalArgumentException") (by decide +kernel), hZ.2.2.2.2.2.1 ("java/lang/IndexOutOfBoundsException", "java/lang/IllegalArgumentException") (by decide)⟩, fun _ h => absurd h List.not_mem_nil⟩) rfl (by decide) (hts (.classLink RL 13 "java/lang/IndexOutOfBoundsException") (by decide +kernel)) (va_Nw.use rfl (hZ.2.2.2.2.1 ("java/lang/IndexOutOfBoundsException", "java/lang/IndexOutOfBoundsException") (by decide))) hce hcv hcl9 ?_
      refine lv_astore (lv' := [(4, .ref q9), (0, .ref x), (1, .int kd), (2, .int ky), (3, .ref oa)]) hx hb dL_rowName_17 hl (by decide) rfl (fun ls hl => ?_)
      refine lv_iconst (v := 2) hx hb dL_rowName_19 (by decide) ?_
      exact m_iret X hK hw hS (⟨y, z, g0, Or.inr ⟨Or.inr (⟨rfl, hx9⟩), rfl⟩, hoa, hcw, cStep.rf.w⟩) (by omega) (by omega) dL_rowName_20
  obtain ⟨r9, er9⟩ : ∃ r9, r9 = r2 := ⟨_, rfl⟩
  rw [← er9] at hp
  rw [← er9]
  have hP : ∃ (y1 : cY) (z1 : cZ), CW G dce x ad M1 y1 z1 ∧ cStep ad dce y z M y1 z1 M1 ∧ cP_rowName z kd ky r9 z1 := by
    rcases hp with ⟨⟨k, a1, a2, a3⟩, a5⟩
    exact ⟨y, z, by rw [a5]; exact hcw, by rw [a5]; exact cStep.rf, ⟨k, a1, a2, a3, rfl⟩⟩
  obtain ⟨y1, z1, hc1, hs1, hco⟩ := hP
  have ho1 : M1 oa = some (.inl (G.2 2, 1, .inr (.inl g0))) := hs1.1 oa _ hoa (hcw.nO hoa)
  refine lv_i2l hx hb dL_rowName_8 rfl ?_
  refine m_last X hK hw hS ho1 (i := 0) (by unfold vp_in; decide) dL_rowName_9 (fun M3 H locs eM3 hw hS => ?_)
  refine lv_goto (tgt := 21) hx hb dL_rowName_10 (by decide) ?_
  refine lv_iconst (v := 0) hx hb dL_rowName_21 (by decide) ?_
  have hT := hcw.tO hoa hc1 hs1 eM3
  exact m_iret X hK hw hS (⟨y1, z1, _, Or.inl ⟨rfl, r9, rfl, hco⟩, hT⟩) (by omega) (by omega) dL_rowName_22
set_option maxHeartbeats 4000000 in
set_option maxRecDepth 100000 in
theorem c_L_rowReference (l : Launch) (G : gG) (dce sz : Nat) (M : gM)  (hlt : l.stackTraces = false) (x : Nat) (ad : Nat → Nat) (y : cY) (z : cZ) (hcw : CW G dce x ad M y z) (oa : Nat) (g0 : Nat → Int64) (hoa : M oa = some (oO G g0)) (kd ky : Int32) : mI l yL_rowReference wsL_rowReference ({ frames := 9, cells := 2, slots := 12, locals := 147 }) G dce sz M [.ref x, .int kd, .int ky, .ref oa] (fun k M' => ∃ (y1 : cY) (z1 : cZ) (g1 : Nat → Int64), cO_rowReference z kd ky k (g1 0) z1 ∧ M' oa = some (oO G g1) ∧ CW G dce x ad M' y1 z1 ∧ ((∀ b e, M b = some e → ¬ cOwn ad y z dce b → b ≠ oa → M' b = some e) ∧ ∀ b, cOwn ad y1 z1 dce b → cOwn ad y z dce b ∨ M b = none)) (2) (12) := by
  have hX9 := hcw.1.1
  refine wMetW (Qc := QI G _) (cc := cL_rowReference) (maxL := 5) (ret := (some .int)) (hh := [(0, 10, 13, 15), (0, 10, 17, 13)]) (by decide) rfl (Nat.le_of_ble_eq_true rfl) ?_
  intro p e s m below meth c A ls X htab hnm hw hK hZ hA hS hsz eA hl
  obtain ⟨hx, hb, hr, hts, hown, hlk, hml⟩ := id X
  have hl : lv_has ls 5 [(0, .ref x), (1, .int kd), (2, .int ky), (3, .ref oa)] := hl
  refine lv_aload_n hx hb dL_rowReference_0 rfl (lv_at hl 3 rfl) ?_
  refine lv_iconst (v := 0) hx hb dL_rowReference_1 (by decide) ?_
  refine lv_aload_n hx hb dL_rowReference_2 rfl (lv_at hl 0 rfl) ?_
  refine lv_iload_n hx hb dL_rowReference_3 rfl (lv_at hl 1 rfl) ?_
  refine lv_iload_n hx hb dL_rowReference_4 rfl (lv_at hl 2 rfl) ?_
  refine x_callVi X (ci := 7) rfl hX9 hK hw hZ hS hA (As := [.int kd, .int ky]) (rest := [.int 0, .ref oa]) (c_rowReference l G dce _ M hlt x ad y z hcw kd ky) (cwV 2 hts gL_rowReference_X6_rowReference rfl rfl rfl (by decide +kernel) ⟨Nat.le_of_ble_eq_true rfl, Nat.le_of_ble_eq_true rfl⟩) rfl hl.1 rfl (Nat.le_of_ble_eq_true rfl) dL_rowReference_5 (Nat.le_of_ble_eq_true rfl) (Nat.le_of_ble_eq_true rfl) (fun E ce q9 M1 H locs hp hw hS hz hk hce hcv hcl9 => ?_) (fun r2 M1 H locs hp hw hS hz hk => ?_)
  · obtain ⟨hpx, hM9⟩ := hp
    rw [hM9] at hw
    rcases hpx with ⟨hE, hx9⟩ | ⟨hE, hx9⟩
    · have hE : E = "java/lang/IllegalArgumentException" := hE
      subst hE
      refine vx_catch (name := "java/lang/IllegalArgumentException") hown [] ⟨0, 10, 13, 15⟩ [⟨0, 10, 17, 13⟩] (htab.trans rfl) (fun _ h => absurd h List.not_mem_nil) rfl (by decide) (hts (.classLink RL 15 "java/lang/IllegalArgumentException") (by decide +kernel)) (va_Nw.use rfl (hZ.2.2.2.2.1 ("java/lang/IllegalArgumentException", "java/lang/IllegalArgumentException") (by decide))) hce hcv hcl9 ?_
      refine lv_astore (lv' := [(4, .ref q9), (0, .ref x), (1, .int kd), (2, .int ky), (3, .ref oa)]) hx hb dL_rowReference_13 hl (by decide) rfl (fun ls hl => ?_)
      refine lv_iconst (v := 1) hx hb dL_rowReference_15 (by decide) ?_
      exact m_iret X hK hw hS (⟨y, z, g0, Or.inr ⟨Or.inl ⟨rfl, hx9⟩, rfl⟩, hoa, hcw, cStep.rf.w⟩) (by omega) (by omega) dL_rowReference_16
    · have hE : E = "java/lang/IndexOutOfBoundsException" := hE
      subst hE
      refine vx_catch (name := "java/lang/IndexOutOfBoundsException") hown [⟨0, 10, 13, 15⟩] ⟨0, 10, 17, 13⟩ [] (htab.trans rfl) (List.forall_mem_cons.mpr ⟨Or.inr ⟨by decide, "java/lang/IllegalArgumentException", hts (.classLink RL 15 "java/lang/IllegalArgumentException") (by decide +kernel), hZ.2.2.2.2.2.1 ("java/lang/IndexOutOfBoundsException", "java/lang/IllegalArgumentException") (by decide)⟩, fun _ h => absurd h List.not_mem_nil⟩) rfl (by decide) (hts (.classLink RL 13 "java/lang/IndexOutOfBoundsException") (by decide +kernel)) (va_Nw.use rfl (hZ.2.2.2.2.1 ("java/lang/IndexOutOfBoundsException", "java/lang/IndexOutOfBoundsException") (by decide))) hce hcv hcl9 ?_
      refine lv_astore (lv' := [(4, .ref q9), (0, .ref x), (1, .int kd), (2, .int ky), (3, .ref oa)]) hx hb dL_rowReference_17 hl (by decide) rfl (fun ls hl => ?_)
      refine lv_iconst (v := 2) hx hb dL_rowReference_19 (by decide) ?_
      exact m_iret X hK hw hS (⟨y, z, g0, Or.inr ⟨Or.inr (⟨rfl, hx9⟩), rfl⟩, hoa, hcw, cStep.rf.w⟩) (by omega) (by omega) dL_rowReference_20
  obtain ⟨r9, er9⟩ : ∃ r9, r9 = r2 := ⟨_, rfl⟩
  rw [← er9] at hp
  rw [← er9]
  have hP : ∃ (y1 : cY) (z1 : cZ), CW G dce x ad M1 y1 z1 ∧ cStep ad dce y z M y1 z1 M1 ∧ cP_rowReference z kd ky r9 z1 := by
    rcases hp with ⟨⟨k, a1, a2, a3⟩, a5⟩
    exact ⟨y, z, by rw [a5]; exact hcw, by rw [a5]; exact cStep.rf, ⟨k, a1, a2, a3, rfl⟩⟩
  obtain ⟨y1, z1, hc1, hs1, hco⟩ := hP
  have ho1 : M1 oa = some (.inl (G.2 2, 1, .inr (.inl g0))) := hs1.1 oa _ hoa (hcw.nO hoa)
  refine lv_i2l hx hb dL_rowReference_8 rfl ?_
  refine m_last X hK hw hS ho1 (i := 0) (by unfold vp_in; decide) dL_rowReference_9 (fun M3 H locs eM3 hw hS => ?_)
  refine lv_goto (tgt := 21) hx hb dL_rowReference_10 (by decide) ?_
  refine lv_iconst (v := 0) hx hb dL_rowReference_21 (by decide) ?_
  have hT := hcw.tO hoa hc1 hs1 eM3
  exact m_iret X hK hw hS (⟨y1, z1, _, Or.inl ⟨rfl, r9, rfl, hco⟩, hT⟩) (by omega) (by omega) dL_rowReference_22
set_option maxHeartbeats 4000000 in
set_option maxRecDepth 100000 in
theorem c_L_rowVersion (l : Launch) (G : gG) (dce sz : Nat) (M : gM)  (hlt : l.stackTraces = false) (x : Nat) (ad : Nat → Nat) (y : cY) (z : cZ) (hcw : CW G dce x ad M y z) (oa : Nat) (g0 : Nat → Int64) (hoa : M oa = some (oO G g0)) (kd ky : Int32) : mI l yL_rowVersion wsL_rowVersion ({ frames := 9, cells := 2, slots := 12, locals := 147 }) G dce sz M [.ref x, .int kd, .int ky, .ref oa] (fun k M' => ∃ (y1 : cY) (z1 : cZ) (g1 : Nat → Int64), cO_rowVersion z kd ky k (g1 0) z1 ∧ M' oa = some (oO G g1) ∧ CW G dce x ad M' y1 z1 ∧ ((∀ b e, M b = some e → ¬ cOwn ad y z dce b → b ≠ oa → M' b = some e) ∧ ∀ b, cOwn ad y1 z1 dce b → cOwn ad y z dce b ∨ M b = none)) (2) (12) := by
  have hX9 := hcw.1.1
  refine wMetW (Qc := QI G _) (cc := cL_rowVersion) (maxL := 5) (ret := (some .int)) (hh := [(0, 10, 13, 15), (0, 10, 17, 13)]) (by decide) rfl (Nat.le_of_ble_eq_true rfl) ?_
  intro p e s m below meth c A ls X htab hnm hw hK hZ hA hS hsz eA hl
  obtain ⟨hx, hb, hr, hts, hown, hlk, hml⟩ := id X
  have hl : lv_has ls 5 [(0, .ref x), (1, .int kd), (2, .int ky), (3, .ref oa)] := hl
  refine lv_aload_n hx hb dL_rowVersion_0 rfl (lv_at hl 3 rfl) ?_
  refine lv_iconst (v := 0) hx hb dL_rowVersion_1 (by decide) ?_
  refine lv_aload_n hx hb dL_rowVersion_2 rfl (lv_at hl 0 rfl) ?_
  refine lv_iload_n hx hb dL_rowVersion_3 rfl (lv_at hl 1 rfl) ?_
  refine lv_iload_n hx hb dL_rowVersion_4 rfl (lv_at hl 2 rfl) ?_
  refine x_callVi X (ci := 7) rfl hX9 hK hw hZ hS hA (As := [.int kd, .int ky]) (rest := [.int 0, .ref oa]) (c_rowVersion l G dce _ M hlt x ad y z hcw kd ky) (cwV 2 hts gL_rowVersion_X6_rowVersion rfl rfl rfl (by decide +kernel) ⟨Nat.le_of_ble_eq_true rfl, Nat.le_of_ble_eq_true rfl⟩) rfl hl.1 rfl (Nat.le_of_ble_eq_true rfl) dL_rowVersion_5 (Nat.le_of_ble_eq_true rfl) (Nat.le_of_ble_eq_true rfl) (fun E ce q9 M1 H locs hp hw hS hz hk hce hcv hcl9 => ?_) (fun r2 M1 H locs hp hw hS hz hk => ?_)
  · obtain ⟨hpx, hM9⟩ := hp
    rw [hM9] at hw
    rcases hpx with ⟨hE, hx9⟩ | ⟨hE, hx9⟩
    · have hE : E = "java/lang/IllegalArgumentException" := hE
      subst hE
      refine vx_catch (name := "java/lang/IllegalArgumentException") hown [] ⟨0, 10, 13, 15⟩ [⟨0, 10, 17, 13⟩] (htab.trans rfl) (fun _ h => absurd h List.not_mem_nil) rfl (by decide) (hts (.classLink RL 15 "java/lang/IllegalArgumentException") (by decide +kernel)) (va_Nw.use rfl (hZ.2.2.2.2.1 ("java/lang/IllegalArgumentException", "java/lang/IllegalArgumentException") (by decide))) hce hcv hcl9 ?_
      refine lv_astore (lv' := [(4, .ref q9), (0, .ref x), (1, .int kd), (2, .int ky), (3, .ref oa)]) hx hb dL_rowVersion_13 hl (by decide) rfl (fun ls hl => ?_)
      refine lv_iconst (v := 1) hx hb dL_rowVersion_15 (by decide) ?_
      exact m_iret X hK hw hS (⟨y, z, g0, Or.inr ⟨Or.inl ⟨rfl, hx9⟩, rfl⟩, hoa, hcw, cStep.rf.w⟩) (by omega) (by omega) dL_rowVersion_16
    · have hE : E = "java/lang/IndexOutOfBoundsException" := hE
      subst hE
      refine vx_catch (name := "java/lang/IndexOutOfBoundsException") hown [⟨0, 10, 13, 15⟩] ⟨0, 10, 17, 13⟩ [] (htab.trans rfl) (List.forall_mem_cons.mpr ⟨Or.inr ⟨by decide, "java/lang/IllegalArgumentException", hts (.classLink RL 15 "java/lang/IllegalArgumentException") (by decide +kernel), hZ.2.2.2.2.2.1 ("java/lang/IndexOutOfBoundsException", "java/lang/IllegalArgumentException") (by decide)⟩, fun _ h => absurd h List.not_mem_nil⟩) rfl (by decide) (hts (.classLink RL 13 "java/lang/IndexOutOfBoundsException") (by decide +kernel)) (va_Nw.use rfl (hZ.2.2.2.2.1 ("java/lang/IndexOutOfBoundsException", "java/lang/IndexOutOfBoundsException") (by decide))) hce hcv hcl9 ?_
      refine lv_astore (lv' := [(4, .ref q9), (0, .ref x), (1, .int kd), (2, .int ky), (3, .ref oa)]) hx hb dL_rowVersion_17 hl (by decide) rfl (fun ls hl => ?_)
      refine lv_iconst (v := 2) hx hb dL_rowVersion_19 (by decide) ?_
      exact m_iret X hK hw hS (⟨y, z, g0, Or.inr ⟨Or.inr (⟨rfl, hx9⟩), rfl⟩, hoa, hcw, cStep.rf.w⟩) (by omega) (by omega) dL_rowVersion_20
  obtain ⟨r9, er9⟩ : ∃ r9, r9 = r2 := ⟨_, rfl⟩
  rw [← er9] at hp
  rw [← er9]
  have hP : ∃ (y1 : cY) (z1 : cZ), CW G dce x ad M1 y1 z1 ∧ cStep ad dce y z M y1 z1 M1 ∧ cP_rowVersion z kd ky r9 z1 := by
    rcases hp with ⟨⟨k, a1, a2, a3⟩, a5⟩
    exact ⟨y, z, by rw [a5]; exact hcw, by rw [a5]; exact cStep.rf, ⟨k, a1, a2, a3, rfl⟩⟩
  obtain ⟨y1, z1, hc1, hs1, hco⟩ := hP
  have ho1 : M1 oa = some (.inl (G.2 2, 1, .inr (.inl g0))) := hs1.1 oa _ hoa (hcw.nO hoa)
  refine lv_i2l hx hb dL_rowVersion_8 rfl ?_
  refine m_last X hK hw hS ho1 (i := 0) (by unfold vp_in; decide) dL_rowVersion_9 (fun M3 H locs eM3 hw hS => ?_)
  refine lv_goto (tgt := 21) hx hb dL_rowVersion_10 (by decide) ?_
  refine lv_iconst (v := 0) hx hb dL_rowVersion_21 (by decide) ?_
  have hT := hcw.tO hoa hc1 hs1 eM3
  exact m_iret X hK hw hS (⟨y1, z1, _, Or.inl ⟨rfl, r9, rfl, hco⟩, hT⟩) (by omega) (by omega) dL_rowVersion_22
set_option maxHeartbeats 4000000 in
set_option maxRecDepth 100000 in
theorem c_L_write (l : Launch) (G : gG) (dce sz : Nat) (M : gM)  (hlt : l.stackTraces = false) (x : Nat) (ad : Nat → Nat) (y : cY) (z : cZ) (hcw : CW G dce x ad M y z) (oa : Nat) (g0 : Nat → Int64) (hoa : M oa = some (oO G g0)) (nu : Int32) : mI l yL_write wsL_write ({ frames := 8, cells := 1, slots := 6, locals := 124 }) G dce sz M [.ref x, .int nu, .ref oa] (fun k M' => ∃ (y1 : cY) (z1 : cZ) (g1 : Nat → Int64), cO_write z nu k (g1 0) z1 ∧ M' oa = some (oO G g1) ∧ CW G dce x ad M' y1 z1 ∧ ((∀ b e, M b = some e → ¬ cOwn ad y z dce b → b ≠ oa → M' b = some e) ∧ ∀ b, cOwn ad y1 z1 dce b → cOwn ad y z dce b ∨ M b = none)) (1) (6) := by
  have hX9 := hcw.1.1
  refine wMetW (Qc := QI G _) (cc := cL_write) (maxL := 4) (ret := (some .int)) (hh := [(0, 9, 12, 13)]) (by decide) rfl (Nat.le_of_ble_eq_true rfl) ?_
  intro p e s m below meth c A ls X htab hnm hw hK hZ hA hS hsz eA hl
  obtain ⟨hx, hb, hr, hts, hown, hlk, hml⟩ := id X
  have hl : lv_has ls 4 [(0, .ref x), (1, .int nu), (2, .ref oa)] := hl
  refine lv_aload_n hx hb dL_write_0 rfl (lv_at hl 2 rfl) ?_
  refine lv_iconst (v := 0) hx hb dL_write_1 (by decide) ?_
  refine lv_aload_n hx hb dL_write_2 rfl (lv_at hl 0 rfl) ?_
  refine lv_iload_n hx hb dL_write_3 rfl (lv_at hl 1 rfl) ?_
  refine x_callVi X (ci := 7) rfl hX9 hK hw hZ hS hA (As := [.int nu]) (rest := [.int 0, .ref oa]) (c_write l G dce _ M hlt x ad y z hcw nu) (cwV 1 hts gL_write_X6_write rfl rfl rfl (by decide +kernel) ⟨Nat.le_of_ble_eq_true rfl, Nat.le_of_ble_eq_true rfl⟩) rfl hl.1 rfl (Nat.le_of_ble_eq_true rfl) dL_write_4 (Nat.le_of_ble_eq_true rfl) (Nat.le_of_ble_eq_true rfl) (fun E ce q9 M1 H locs hp hw hS hz hk hce hcv hcl9 => ?_) (fun r2 M1 H locs hp hw hS hz hk => ?_)
  · obtain ⟨hpx, hM9⟩ := hp
    rw [hM9] at hw
    obtain ⟨hE, hx9⟩ := hpx
    have hE : E = "java/lang/IndexOutOfBoundsException" := hE
    subst hE
    refine vx_catch (name := "java/lang/IndexOutOfBoundsException") hown [] ⟨0, 9, 12, 13⟩ [] (htab.trans rfl) (fun _ h => absurd h List.not_mem_nil) rfl (by decide) (hts (.classLink RL 13 "java/lang/IndexOutOfBoundsException") (by decide +kernel)) (va_Nw.use rfl (hZ.2.2.2.2.1 ("java/lang/IndexOutOfBoundsException", "java/lang/IndexOutOfBoundsException") (by decide))) hce hcv hcl9 ?_
    refine lv_astore_n (lv' := [(3, .ref q9), (0, .ref x), (1, .int nu), (2, .ref oa)]) hx hb dL_write_12 rfl hl (by decide) rfl (fun ls hl => ?_)
    refine lv_iconst (v := 1) hx hb dL_write_13 (by decide) ?_
    exact m_iret X hK hw hS (⟨y, z, g0, Or.inr ⟨⟨rfl, hx9⟩, rfl⟩, hoa, hcw, cStep.rf.w⟩) (by omega) (by omega) dL_write_14
  obtain ⟨r9, er9⟩ : ∃ r9, r9 = r2 := ⟨_, rfl⟩
  rw [← er9] at hp
  rw [← er9]
  have hP : ∃ (y1 : cY) (z1 : cZ), CW G dce x ad M1 y1 z1 ∧ cStep ad dce y z M y1 z1 M1 ∧ cP_write z nu r9 z1 := by
    rcases hp with ⟨⟨j, a1, a2, a3⟩, a5⟩
    exact ⟨y, z, by rw [a5]; exact hcw, by rw [a5]; exact cStep.rf, ⟨j, a1, a2, a3, rfl⟩⟩
  obtain ⟨y1, z1, hc1, hs1, hco⟩ := hP
  have ho1 : M1 oa = some (.inl (G.2 2, 1, .inr (.inl g0))) := hs1.1 oa _ hoa (hcw.nO hoa)
  refine lv_i2l hx hb dL_write_7 rfl ?_
  refine m_last X hK hw hS ho1 (i := 0) (by unfold vp_in; decide) dL_write_8 (fun M3 H locs eM3 hw hS => ?_)
  refine lv_goto (tgt := 15) hx hb dL_write_9 (by decide) ?_
  refine lv_iconst (v := 0) hx hb dL_write_15 (by decide) ?_
  have hT := hcw.tO hoa hc1 hs1 eM3
  exact m_iret X hK hw hS (⟨y1, z1, _, Or.inl ⟨rfl, r9, rfl, hco⟩, hT⟩) (by omega) (by omega) dL_write_16
set_option maxHeartbeats 4000000 in
set_option maxRecDepth 100000 in
theorem c_L_written (l : Launch) (G : gG) (dce sz : Nat) (M : gM)  (hlt : l.stackTraces = false) (x : Nat) (ad : Nat → Nat) (y : cY) (z : cZ) (hcw : CW G dce x ad M y z) (oa : Nat) (g0 : Nat → Int64) (hoa : M oa = some (oO G g0)) (nu : Int32) : mI l yL_written wsL_written ({ frames := 8, cells := 1, slots := 6, locals := 124 }) G dce sz M [.ref x, .int nu, .ref oa] (fun k M' => ∃ (y1 : cY) (z1 : cZ) (g1 : Nat → Int64), cO_written z nu k (g1 0) z1 ∧ M' oa = some (oO G g1) ∧ CW G dce x ad M' y1 z1 ∧ ((∀ b e, M b = some e → ¬ cOwn ad y z dce b → b ≠ oa → M' b = some e) ∧ ∀ b, cOwn ad y1 z1 dce b → cOwn ad y z dce b ∨ M b = none)) (1) (6) := by
  have hX9 := hcw.1.1
  refine wMetW (Qc := QI G _) (cc := cL_written) (maxL := 4) (ret := (some .int)) (hh := [(0, 9, 12, 13)]) (by decide) rfl (Nat.le_of_ble_eq_true rfl) ?_
  intro p e s m below meth c A ls X htab hnm hw hK hZ hA hS hsz eA hl
  obtain ⟨hx, hb, hr, hts, hown, hlk, hml⟩ := id X
  have hl : lv_has ls 4 [(0, .ref x), (1, .int nu), (2, .ref oa)] := hl
  refine lv_aload_n hx hb dL_written_0 rfl (lv_at hl 2 rfl) ?_
  refine lv_iconst (v := 0) hx hb dL_written_1 (by decide) ?_
  refine lv_aload_n hx hb dL_written_2 rfl (lv_at hl 0 rfl) ?_
  refine lv_iload_n hx hb dL_written_3 rfl (lv_at hl 1 rfl) ?_
  refine x_callVi X (ci := 7) rfl hX9 hK hw hZ hS hA (As := [.int nu]) (rest := [.int 0, .ref oa]) (c_written l G dce _ M hlt x ad y z hcw nu) (cwV 1 hts gL_written_X6_written rfl rfl rfl (by decide +kernel) ⟨Nat.le_of_ble_eq_true rfl, Nat.le_of_ble_eq_true rfl⟩) rfl hl.1 rfl (Nat.le_of_ble_eq_true rfl) dL_written_4 (Nat.le_of_ble_eq_true rfl) (Nat.le_of_ble_eq_true rfl) (fun E ce q9 M1 H locs hp hw hS hz hk hce hcv hcl9 => ?_) (fun r2 M1 H locs hp hw hS hz hk => ?_)
  · obtain ⟨hpx, hM9⟩ := hp
    rw [hM9] at hw
    obtain ⟨hE, hx9⟩ := hpx
    have hE : E = "java/lang/IndexOutOfBoundsException" := hE
    subst hE
    refine vx_catch (name := "java/lang/IndexOutOfBoundsException") hown [] ⟨0, 9, 12, 13⟩ [] (htab.trans rfl) (fun _ h => absurd h List.not_mem_nil) rfl (by decide) (hts (.classLink RL 13 "java/lang/IndexOutOfBoundsException") (by decide +kernel)) (va_Nw.use rfl (hZ.2.2.2.2.1 ("java/lang/IndexOutOfBoundsException", "java/lang/IndexOutOfBoundsException") (by decide))) hce hcv hcl9 ?_
    refine lv_astore_n (lv' := [(3, .ref q9), (0, .ref x), (1, .int nu), (2, .ref oa)]) hx hb dL_written_12 rfl hl (by decide) rfl (fun ls hl => ?_)
    refine lv_iconst (v := 1) hx hb dL_written_13 (by decide) ?_
    exact m_iret X hK hw hS (⟨y, z, g0, Or.inr ⟨⟨rfl, hx9⟩, rfl⟩, hoa, hcw, cStep.rf.w⟩) (by omega) (by omega) dL_written_14
  obtain ⟨r9, er9⟩ : ∃ r9, r9 = r2 := ⟨_, rfl⟩
  rw [← er9] at hp
  rw [← er9]
  have hP : ∃ (y1 : cY) (z1 : cZ), CW G dce x ad M1 y1 z1 ∧ cStep ad dce y z M y1 z1 M1 ∧ cP_written z nu r9 z1 := by
    rcases hp with ⟨⟨j, a1, a2, a3⟩, a5⟩
    exact ⟨y, z, by rw [a5]; exact hcw, by rw [a5]; exact cStep.rf, ⟨j, a1, a2, a3, rfl⟩⟩
  obtain ⟨y1, z1, hc1, hs1, hco⟩ := hP
  have ho1 : M1 oa = some (.inl (G.2 2, 1, .inr (.inl g0))) := hs1.1 oa _ hoa (hcw.nO hoa)
  refine lv_i2l hx hb dL_written_7 rfl ?_
  refine m_last X hK hw hS ho1 (i := 0) (by unfold vp_in; decide) dL_written_8 (fun M3 H locs eM3 hw hS => ?_)
  refine lv_goto (tgt := 15) hx hb dL_written_9 (by decide) ?_
  refine lv_iconst (v := 0) hx hb dL_written_15 (by decide) ?_
  have hT := hcw.tO hoa hc1 hs1 eM3
  exact m_iret X hK hw hS (⟨y1, z1, _, Or.inl ⟨rfl, r9, rfl, hco⟩, hT⟩) (by omega) (by omega) dL_written_16
