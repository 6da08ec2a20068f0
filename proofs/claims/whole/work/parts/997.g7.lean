/-! GEOMETRY: the drawn curve is the list of edges with their corners -/
theorem cnt_upd {P P' : Int → Bool} {e0 : Int} : ∀ (m : Nat) (k : Int), k ≤ e0 → e0 < k + m → P e0 = false → P' e0 = true → (∀ t, t ≠ e0 → P' t = P t) → cnt P' m k = cnt P m k + 1
  | 0, k, h1, h2, _, _, _ => by omega
  | m + 1, k, h1, h2, h3, h4, h5 => by
    unfold cnt
    by_cases e : k = e0
    · rw [e, h3, h4, cnt_congr (p := P') (q := P) m (e0 + 1) (fun t t0 t1 => h5 t (by omega))]
      simp only [↓reduceIte, Bool.false_eq_true]
      omega
    · rw [h5 k e, cnt_upd m (k + 1) (by omega) (by omega) h3 h4 h5]
      omega
def KP (s : CS) (K : KS) : Prop := cM s = K.1 ∧ cX s = K.2.1 ∧ cXD s = K.2.2.1 ∧ cY s = K.2.2.2.1 ∧ cYD s = K.2.2.2.2.1
def HD (K : KS) (ne : Int) (fi ls : Int → Int) : Prop := ∀ k, 0 ≤ k → k < K.1 → K.2.2.2.2.2 k = cnt (fun e => decide (fi e = k) || decide (ls e = k)) ne.toNat 0
def bm1 (p c : Int) : Int := if p ≤ c then c + 1 else c
section DD
variable {I J V : Int → Int}
theorem corP_eq {s : CS} {K : KS} (h : KP s K) (a b l : Int) : corP I J V s a b l = kcA K (cpX I J V a b l) (cpXD I J V a b l) (cpY I J V a b l) (cpYD I J V a b l) := by
  obtain ⟨h1, h2, h3, h4, h5⟩ := h
  unfold corP kcA
  rw [h1, h2, h3, h4, h5]
abbrev kpt (I J V : Int → Int) (K : KS) (a b l : Int) : KS := kcS K (cpX I J V a b l) (cpXD I J V a b l) (cpY I J V a b l) (cpYD I J V a b l)
abbrev apt (I J V : Int → Int) (K : KS) (a b l : Int) : Int := kcA K (cpX I J V a b l) (cpXD I J V a b l) (cpY I J V a b l) (cpYD I J V a b l)
abbrev fpt (I J V : Int → Int) (K : KS) (a b l : Int) : Prop := kcE K (cpX I J V a b l) (cpXD I J V a b l) (cpY I J V a b l) (cpYD I J V a b l)
theorem corH_iff {s : CS} {K : KS} (h : KP s K) (a b l : Int) : corH I J V s a b l ↔ fpt I J V K a b l := by
  have e := corP_eq (I := I) (J := J) (V := V) h a b l
  obtain ⟨h1, h2, h3, h4, h5⟩ := h
  unfold corH fpt kcE
  rw [e, h1, h2, h3, h4, h5]
/-- one end more: the corners -/
theorem cor_st {s : CS} {K : KS} (h : KP s K) {a b l : Int} (hcap : (kpt I J V K a b l).1 ≤ 75) : KP (corT I J V s a b l) (kpt I J V K a b l) ∧ corA I J V s a b l = apt I J V K a b l ∧ cNE (corT I J V s a b l) = cNE s ∧ cFO (corT I J V s a b l) = cFO s ∧ cLA (corT I J V s a b l) = cLA s ∧ cFI (corT I J V s a b l) = (fun e => if fpt I J V K a b l then cFI s e else bm1 (apt I J V K a b l) (cFI s e)) ∧ cLS (corT I J V s a b l) = (fun e => if fpt I J V K a b l then cLS s e else bm1 (apt I J V K a b l) (cLS s e)) := by
  have hi := corH_iff (I := I) (J := J) (V := V) h a b l
  have e := corP_eq (I := I) (J := J) (V := V) h a b l
  unfold corT corA
  by_cases c : fpt I J V K a b l
  · have c' := hi.mpr c
    rw [if_pos c', if_pos c']
    refine ⟨?_, e, rfl, rfl, rfl, ?_, ?_⟩
    · have : kpt I J V K a b l = (K.1, K.2.1, K.2.2.1, K.2.2.2.1, K.2.2.2.2.1, updF K.2.2.2.2.2 (apt I J V K a b l) (K.2.2.2.2.2 (apt I J V K a b l) + 1)) := by unfold kpt kcS; rw [if_pos c]
      rw [this]; exact h
    · funext t; rw [if_pos c]
    · funext t; rw [if_pos c]
  · have c' : ¬ corH I J V s a b l := fun q => c (hi.mp q)
    have ek : kpt I J V K a b l = (K.1 + 1, insF K.2.1 (apt I J V K a b l) (cpX I J V a b l), insF K.2.2.1 (apt I J V K a b l) (cpXD I J V a b l), insF K.2.2.2.1 (apt I J V K a b l) (cpY I J V a b l), insF K.2.2.2.2.1 (apt I J V K a b l) (cpYD I J V a b l), insF K.2.2.2.2.2 (apt I J V K a b l) 1) := by unfold kpt kcS; rw [if_neg c]
    rw [ek] at hcap
    have hcap : K.1 + 1 ≤ 75 := hcap
    have hm : cM s < 75 := by have := h.1; omega
    rw [if_neg c', if_neg c', if_pos hm, if_pos hm]
    obtain ⟨h1, h2, h3, h4, h5⟩ := h
    refine ⟨?_, e, rfl, rfl, rfl, ?_, ?_⟩
    · rw [ek]
      show cM s + 1 = K.1 + 1 ∧ insF (cX s) (corP I J V s a b l) _ = _ ∧ insF (cXD s) (corP I J V s a b l) _ = _ ∧ insF (cY s) (corP I J V s a b l) _ = _ ∧ insF (cYD s) (corP I J V s a b l) _ = _
      rw [e, h1, h2, h3, h4, h5]
      exact ⟨rfl, rfl, rfl, rfl, rfl⟩
    · funext t
      show bmp (corP I J V s a b l) (cFI s) t = _
      rw [if_neg c, e]; rfl
    · funext t
      show bmp (corP I J V s a b l) (cLS s) t = _
      rw [if_neg c, e]; rfl
/-- an end that was there -/
theorem edO_st {K : KS} (hs : srtK K) {x y c t a b l : Int} (h : edO I J V K x y c t) : edO I J V (kpt I J V K a b l) x y (if fpt I J V K a b l then c else bm1 (apt I J V K a b l) c) t := by
  have ha := (kcA_sp (x := cpX I J V a b l) (xd := cpXD I J V a b l) (y := cpY I J V a b l) (yd := cpYD I J V a b l) hs.1).1
  by_cases f : fpt I J V K a b l
  · rw [if_pos f]
    have : kpt I J V K a b l = (K.1, K.2.1, K.2.2.1, K.2.2.2.1, K.2.2.2.2.1, updF K.2.2.2.2.2 (apt I J V K a b l) (K.2.2.2.2.2 (apt I J V K a b l) + 1)) := by unfold kpt kcS; rw [if_pos f]
    rw [this]; exact h
  · rw [if_neg f]
    have ek : kpt I J V K a b l = (K.1 + 1, insF K.2.1 (apt I J V K a b l) (cpX I J V a b l), insF K.2.2.1 (apt I J V K a b l) (cpXD I J V a b l), insF K.2.2.2.1 (apt I J V K a b l) (cpY I J V a b l), insF K.2.2.2.2.1 (apt I J V K a b l) (cpYD I J V a b l), insF K.2.2.2.2.2 (apt I J V K a b l) 1) := by unfold kpt kcS; rw [if_neg f]
    rw [ek]
    rcases h with ⟨h1, h2⟩ | ⟨h1, h2, h3, h4, h5, h6, h7⟩
    · refine Or.inl ⟨?_, h2⟩
      unfold bm1; rw [if_neg (by show ¬ apt I J V K a b l ≤ c; unfold apt; omega)]; exact h1
    · unfold bm1
      by_cases q : apt I J V K a b l ≤ c
      · rw [if_pos q]
        exact Or.inr ⟨by omega, h2, ⟨by omega, by show c + 1 < K.1 + 1; omega⟩, (insF_hi q).trans h4, (insF_hi q).trans h5, (insF_hi q).trans h6, (insF_hi q).trans h7⟩
      · rw [if_neg q]
        exact Or.inr ⟨h1, h2, ⟨h3.1, by show c < K.1 + 1; omega⟩, (insF_lo (by omega)).trans h4, (insF_lo (by omega)).trans h5, (insF_lo (by omega)).trans h6, (insF_lo (by omega)).trans h7⟩
/-- the new end -/
theorem edO_nw {K : KS} (hs : srtK K) {a b l : Int} (ht : trE I J a b l ≠ 0) (hl : l ≠ -1) : edO I J V (kpt I J V K a b l) a b (apt I J V K a b l) l := by
  have ha := (kcA_sp (x := cpX I J V a b l) (xd := cpXD I J V a b l) (y := cpY I J V a b l) (yd := cpYD I J V a b l) hs.1).1
  by_cases f : fpt I J V K a b l
  · have ek : kpt I J V K a b l = (K.1, K.2.1, K.2.2.1, K.2.2.2.1, K.2.2.2.2.1, updF K.2.2.2.2.2 (apt I J V K a b l) (K.2.2.2.2.2 (apt I J V K a b l) + 1)) := by unfold kpt kcS; rw [if_pos f]
    rw [ek]
    obtain ⟨e1, e2⟩ := cmp_0 f.2
    obtain ⟨p1, p2, p3, p4⟩ := red_eq (hs.2.1 _ ha.1 f.1) (cp_red ht) e1 e2
    exact Or.inr ⟨by show apt I J V K a b l ≠ -1; unfold apt; omega, hl, ⟨ha.1, f.1⟩, p1, p2, p3, p4⟩
  · have ek : kpt I J V K a b l = (K.1 + 1, insF K.2.1 (apt I J V K a b l) (cpX I J V a b l), insF K.2.2.1 (apt I J V K a b l) (cpXD I J V a b l), insF K.2.2.2.1 (apt I J V K a b l) (cpY I J V a b l), insF K.2.2.2.2.1 (apt I J V K a b l) (cpYD I J V a b l), insF K.2.2.2.2.2 (apt I J V K a b l) 1) := by unfold kpt kcS; rw [if_neg f]
    rw [ek]
    exact Or.inr ⟨by show apt I J V K a b l ≠ -1; unfold apt; omega, hl, ⟨ha.1, by show apt I J V K a b l < K.1 + 1; unfold apt; omega⟩, insF_at, insF_at, insF_at, insF_at⟩
/-- how many edges end at each corner -/
theorem HD_st {K : KS} (hs : srtK K) {ne e0 : Int} {fi ls : Int → Int} {a b l : Int} (h : HD K ne fi ls) (h0 : 0 ≤ e0) (h1 : e0 < ne) (hf : fi e0 = -1) (hl : fpt I J V K a b l → ls e0 ≠ apt I J V K a b l) (hlb : ∀ e, -1 ≤ ls e) (hfb : ∀ e, -1 ≤ fi e) : HD (kpt I J V K a b l) ne (updF (fun e => if fpt I J V K a b l then fi e else bm1 (apt I J V K a b l) (fi e)) e0 (apt I J V K a b l)) (fun e => if fpt I J V K a b l then ls e else bm1 (apt I J V K a b l) (ls e)) := by
  have ha := (kcA_sp (x := cpX I J V a b l) (xd := cpXD I J V a b l) (y := cpY I J V a b l) (yd := cpYD I J V a b l) hs.1).1
  obtain ⟨A, hA⟩ : ∃ A, A = apt I J V K a b l := ⟨_, rfl⟩
  have ha : 0 ≤ A ∧ A ≤ K.1 := by rw [hA]; exact ha
  intro k k0 k1
  by_cases f : fpt I J V K a b l
  · have ek : kpt I J V K a b l = (K.1, K.2.1, K.2.2.1, K.2.2.2.1, K.2.2.2.2.1, updF K.2.2.2.2.2 A (K.2.2.2.2.2 A + 1)) := by rw [hA]; unfold kpt kcS; rw [if_pos f]
    rw [ek] at k1 ⊢
    have k1 : k < K.1 := k1
    have hl := hl f
    rw [← hA] at hl
    have e1 : (fun e => decide (updF (fun e => if fpt I J V K a b l then fi e else bm1 (apt I J V K a b l) (fi e)) e0 (apt I J V K a b l) e = k) || decide ((if fpt I J V K a b l then ls e else bm1 (apt I J V K a b l) (ls e)) = k)) = (fun e => decide (updF fi e0 A e = k) || decide (ls e = k)) := by
      funext e; rw [if_pos f]; unfold updF; rw [← hA]; by_cases q : e = e0
      · rw [if_pos q, if_pos q]
      · rw [if_neg q, if_neg q]; simp only [if_pos f]
    show updF K.2.2.2.2.2 A (K.2.2.2.2.2 A + 1) k = _
    rw [e1]
    by_cases q : k = A
    · rw [q]
      have := cnt_upd (P := fun e => decide (fi e = A) || decide (ls e = A)) (P' := fun e => decide (updF fi e0 A e = A) || decide (ls e = A)) (e0 := e0) ne.toNat 0 h0 (by omega) (by simp only [Bool.or_eq_false_iff, decide_eq_false_iff_not]; omega) (by unfold updF; simp) (fun t ht => by unfold updF; rw [if_neg ht])
      rw [this, ← h A ha.1 (by omega)]
      unfold updF; rw [if_pos rfl]
    · have : updF K.2.2.2.2.2 A (K.2.2.2.2.2 A + 1) k = K.2.2.2.2.2 k := by unfold updF; rw [if_neg q]
      rw [this, h k k0 k1]
      refine cnt_congr _ _ (fun e e0' e1' => ?_)
      show (decide (fi e = k) || decide (ls e = k)) = (decide (updF fi e0 A e = k) || decide (ls e = k))
      unfold updF
      by_cases c : e = e0
      · rw [if_pos c, c, decide_eq_false (show ¬ fi e0 = k by omega), decide_eq_false (show ¬ A = k by omega)]
      · rw [if_neg c]
  · have ek : kpt I J V K a b l = (K.1 + 1, insF K.2.1 A (cpX I J V a b l), insF K.2.2.1 A (cpXD I J V a b l), insF K.2.2.2.1 A (cpY I J V a b l), insF K.2.2.2.2.1 A (cpYD I J V a b l), insF K.2.2.2.2.2 A 1) := by rw [hA]; unfold kpt kcS; rw [if_neg f]
    rw [ek] at k1 ⊢
    have k1 : k < K.1 + 1 := k1
    have e1 : (fun e => decide (updF (fun e => if fpt I J V K a b l then fi e else bm1 (apt I J V K a b l) (fi e)) e0 (apt I J V K a b l) e = k) || decide ((if fpt I J V K a b l then ls e else bm1 (apt I J V K a b l) (ls e)) = k)) = (fun e => decide (updF (fun e => bm1 A (fi e)) e0 A e = k) || decide (bm1 A (ls e) = k)) := by
      funext e; rw [if_neg f]; unfold updF; rw [← hA]; by_cases q : e = e0
      · rw [if_pos q, if_pos q]
      · rw [if_neg q, if_neg q]; simp only [if_neg f]
    show insF K.2.2.2.2.2 A 1 k = _
    rw [e1]
    have hbm : ∀ c, bm1 A c ≠ A := fun c => by unfold bm1; split <;> omega
    by_cases q : k = A
    · rw [q, insF_at]
      have z : cnt (fun _ => false) ne.toNat 0 = 0 := by
        have : ∀ (m : Nat) (k : Int), cnt (fun _ => false) m k = 0 := by
          intro m
          induction m with
          | zero => intro k; rfl
          | succ m ih => intro k; unfold cnt; rw [ih]; rfl
        exact this _ _
      have := cnt_upd (P := fun _ => false) (P' := fun e => decide (updF (fun e => bm1 A (fi e)) e0 A e = A) || decide (bm1 A (ls e) = A)) (e0 := e0) ne.toNat 0 h0 (by omega) rfl (by unfold updF; simp) (fun t ht => by unfold updF; rw [if_neg ht, decide_eq_false (hbm _), decide_eq_false (hbm _)]; rfl)
      rw [this, z]; rfl
    · have bmk : ∀ c, -1 ≤ c → (bm1 A c = k ↔ c = if k < A then k else k - 1) := fun c hc => by
        unfold bm1; split <;> split <;> omega
      have e2 : insF K.2.2.2.2.2 A 1 k = K.2.2.2.2.2 (if k < A then k else k - 1) := by
        unfold insF
        by_cases c : k < A
        · rw [if_pos c, if_pos c]
        · rw [if_neg c, if_neg q, if_neg c]
      rw [e2, h _ (by split <;> omega) (by split <;> omega)]
      refine cnt_congr _ _ (fun e e0' e1' => ?_)
      show (decide (fi e = if k < A then k else k - 1) || decide (ls e = if k < A then k else k - 1)) = (decide (updF (fun e => bm1 A (fi e)) e0 A e = k) || decide (bm1 A (ls e) = k))
      rw [decide_eq_decide.mpr (bmk (ls e) (hlb e))]
      unfold updF
      by_cases c : e = e0
      · subst c
        rw [if_pos rfl, decide_eq_false (show ¬ A = k by omega), decide_eq_false (show ¬ fi e = if k < A then k else k - 1 by split <;> omega)]
      · rw [if_neg c, decide_eq_decide.mpr (bmk (fi e) (hfb e))]
end DD
