/-! THE CLASS: the drawn curve and the reference's edges and corners -/
theorem srch_congr {p q : Int → Bool} : ∀ (m : Nat) (k : Int), (∀ t, k ≤ t → t < k + m → p t = q t) → srch p m k = srch q m k
  | 0, _, _ => rfl
  | m + 1, k, h => by
    unfold srch
    rw [h k (Int.le_refl _) (by omega), srch_congr m (k + 1) (fun t t0 t1 => h t (by omega) (by omega))]
theorem cnt_congr {p q : Int → Bool} : ∀ (m : Nat) (k : Int), (∀ t, k ≤ t → t < k + m → p t = q t) → cnt p m k = cnt q m k
  | 0, _, _ => rfl
  | m + 1, k, h => by
    unfold cnt
    rw [h k (Int.le_refl _) (by omega), cnt_congr m (k + 1) (fun t t0 t1 => h t (by omega) (by omega))]
/-- an end of an edge: the corner's number and the term that bounds it -/
def edO (I J V : Int → Int) (K : KS) (x y c t : Int) : Prop := (c = -1 ∧ t = -1) ∨ (c ≠ -1 ∧ t ≠ -1 ∧ (0 ≤ c ∧ c < K.1) ∧ K.2.1 c = cpX I J V x y t ∧ K.2.2.1 c = cpXD I J V x y t ∧ K.2.2.2.1 c = cpY I J V x y t ∧ K.2.2.2.2.1 c = cpYD I J V x y t)
/-- the drawn curve is the reference's -/
def drOK (n : Int) (I J V : Int → Int) : Prop :=
  cNE (drwS n I J V) = ((edL n I J V).length : Int) ∧ cM (drwS n I J V) = (crL n I J V).1 ∧ (∀ k, 0 ≤ k → k < (crL n I J V).1 → (cX (drwS n I J V) k = (crL n I J V).2.1 k ∧ cXD (drwS n I J V) k = (crL n I J V).2.2.1 k ∧ cY (drwS n I J V) k = (crL n I J V).2.2.2.1 k ∧ cYD (drwS n I J V) k = (crL n I J V).2.2.2.2.1 k) ∧ (crL n I J V).2.2.2.2.2 k = cnt (fun e => decide (cFI (drwS n I J V) e = k) || decide (cLS (drwS n I J V) e = k)) (cNE (drwS n I J V)).toNat 0) ∧
  ∀ e, 0 ≤ e → e < ((edL n I J V).length : Int) → (cFO (drwS n I J V) e = eFo (edL n I J V) e ∧ cLA (drwS n I J V) e = eLa (edL n I J V) e) ∧ edO I J V (crL n I J V) (eFo (edL n I J V) e) (eLa (edL n I J V) e) (cFI (drwS n I J V) e) (eFi (edL n I J V) e) ∧ edO I J V (crL n I J V) (eFo (edL n I J V) e) (eLa (edL n I J V) e) (cLS (drwS n I J V) e) (eLs (edL n I J V) e)
def DRa (a : FA) : Prop := ∀ f, 0 ≤ f → f < a.1 → drOK (gN a f) (gI a f) (gJ a f) (gV a f)
def idF (a : FA) (f t : Int) : Int := idlC (gN a f) ((edA a f).length : Int) (eFo (edA a f)) (eLa (edA a f)) t
theorem idl_eq {n : Int} {I J V : Int → Int} (h : drOK n I J V) (t : Int) : idlC n (cNE (drwS n I J V)) (cFO (drwS n I J V)) (cLA (drwS n I J V)) t = idlC n ((edL n I J V).length : Int) (eFo (edL n I J V)) (eLa (edL n I J V)) t := by
  obtain ⟨h1, h2, h3, h4⟩ := h
  unfold idlC
  rw [h1, srch_congr (p := fun e => decide (cFO (drwS n I J V) e = t) || decide (cLA (drwS n I J V) e = t)) (q := fun e => decide (eFo (edL n I J V) e = t) || decide (eLa (edL n I J V) e = t)) _ _ (fun e e0 e1 => by
    obtain ⟨⟨a1, a2⟩, -⟩ := h4 e e0 (by omega)
    rw [a1, a2])]
theorem smo_eq {n : Int} {I J V : Int → Int} (h : drOK n I J V) : smoS n I J V (cNE (drwS n I J V)) (cFO (drwS n I J V)) (cLA (drwS n I J V)) (cM (drwS n I J V)) (cX (drwS n I J V)) (cXD (drwS n I J V)) (cY (drwS n I J V)) (cYD (drwS n I J V)) = smoS n I J V ((edL n I J V).length : Int) (eFo (edL n I J V)) (eLa (edL n I J V)) (crL n I J V).1 (crL n I J V).2.1 (crL n I J V).2.2.1 (crL n I J V).2.2.2.1 (crL n I J V).2.2.2.2.1 := by
  obtain ⟨h1, h2, h3, h4⟩ := h
  unfold smoS
  rw [h1, h2, srch_congr (p := fun e => decide (wgt I J (cFO (drwS n I J V)) (cLA (drwS n I J V)) e ≠ 1)) (q := fun e => decide (wgt I J (eFo (edL n I J V)) (eLa (edL n I J V)) e ≠ 1)) _ _ (fun e e0 e1 => by
    obtain ⟨⟨a1, a2⟩, -⟩ := h4 e e0 (by omega)
    unfold wgt
    rw [a1, a2]), srch_congr (p := fun k => decide (areaC n I J V (cX (drwS n I J V) k) (cXD (drwS n I J V) k) (cY (drwS n I J V) k) (cYD (drwS n I J V) k) ≠ 1)) (q := fun k => decide (areaC n I J V ((crL n I J V).2.1 k) ((crL n I J V).2.2.1 k) ((crL n I J V).2.2.2.1 k) ((crL n I J V).2.2.2.2.1 k) ≠ 1)) _ _ (fun k k0 k1 => by
    obtain ⟨⟨a1, a2, a3, a4⟩, -⟩ := h3 k k0 (by omega)
    rw [a1, a2, a3, a4])]
theorem knd_eq {I J V : Int → Int} {K : KS} {x y c t x' y' c' t' : Int} (h : edO I J V K x y c t) (h' : edO I J V K x' y' c' t') : knd c c' = knd t t' := by
  unfold knd
  unfold edO at h h'
  have e1 : c ≠ -1 ↔ t ≠ -1 := by omega
  have e2 : c' ≠ -1 ↔ t' ≠ -1 := by omega
  simp only [e1, e2]
theorem kd_eq {n : Int} {I J V : Int → Int} (h : drOK n I J V) (k : Int) : cnt (fun e => decide (knd (cFI (drwS n I J V) e) (cLS (drwS n I J V) e) = k)) (cNE (drwS n I J V)).toNat 0 = ckKd ((edL n I J V).length : Int) (eFi (edL n I J V)) (eLs (edL n I J V)) k := by
  obtain ⟨h1, h2, h3, h4⟩ := h
  unfold ckKd
  rw [h1]
  refine cnt_congr _ _ (fun e e0 e1 => ?_)
  obtain ⟨-, b1, b2⟩ := h4 e e0 (by omega)
  rw [knd_eq b1 b2]
theorem eFo_get {L : List EE} {e : Int} (h0 : 0 ≤ e) (h1 : e < (L.length : Int)) : ∃ g, L[e.toNat]? = some g ∧ g ∈ L ∧ eFo L e = g.1 ∧ eLa L e = g.2.1 ∧ eFi L e = g.2.2.1 ∧ eLs L e = g.2.2.2 := by
  have hlt : e.toNat < L.length := by omega
  refine ⟨L[e.toNat], List.getElem?_eq_getElem hlt, List.getElem_mem hlt, ?_⟩
  have := eFo_at (List.getElem?_eq_getElem hlt)
  rw [show ((e.toNat : Nat) : Int) = e by omega] at this
  exact this
theorem prf_eq {n : Int} {I J V : Int → Int} (h : drOK n I J V) {k : Int} (k0 : 0 ≤ k) (k1 : k < 4 * (((edL n I J V).length : Int) + (crL n I J V).1)) : prfS I J (cNE (drwS n I J V)) (cFO (drwS n I J V)) (cLA (drwS n I J V)) (cFI (drwS n I J V)) (cLS (drwS n I J V)) (cX (drwS n I J V)) (cXD (drwS n I J V)) (cY (drwS n I J V)) (cYD (drwS n I J V)) k = prM I J (edL n I J V) (crL n I J V) k := by
  obtain ⟨h1, h2, h3, h4⟩ := h
  unfold prfS prM
  rw [h1]
  by_cases c : ((edL n I J V).length : Int) ≤ k / 4
  · rw [if_pos c, List.getElem?_eq_none (by omega)]
    obtain ⟨⟨a1, a2, a3, a4⟩, -⟩ := h3 (k / 4 - ((edL n I J V).length : Int)) (by omega) (by omega)
    rw [a1, a2, a3, a4]
  · rw [if_neg c]
    obtain ⟨g, g0, -, g1, g2, g3, g4⟩ := eFo_get (L := edL n I J V) (e := k / 4) (by omega) (by omega)
    obtain ⟨⟨b1, b2⟩, b3, b4⟩ := h4 (k / 4) (by omega) (by omega)
    rw [g0]
    show _ = edW I J g (k % 4)
    unfold edW dirX dirY wgt
    rw [knd_eq b3 b4, b1, b2, g1, g2, g3, g4]
theorem std_eq {n : Int} {I J V : Int → Int} {n2 : Int} {I2 J2 V2 : Int → Int} (hn2 : 0 ≤ n2) (h : drOK n I J V) (h2 : drOK n2 I2 J2 V2) : stdS n (cNE (drwS n I J V)) I J V (cFO (drwS n I J V)) (cLA (drwS n I J V)) n2 (cNE (drwS n2 I2 J2 V2)) I2 J2 V2 (cFO (drwS n2 I2 J2 V2)) (cLA (drwS n2 I2 J2 V2)) = wiS n I J V (fun t => idlC n ((edL n I J V).length : Int) (eFo (edL n I J V)) (eLa (edL n I J V)) t) n2 I2 J2 V2 (fun t => idlC n2 ((edL n2 I2 J2 V2).length : Int) (eFo (edL n2 I2 J2 V2)) (eLa (edL n2 I2 J2 V2)) t) := by
  unfold stdS wiS stdB wiB
  simp only [idl_eq h, idl_eq h2]
