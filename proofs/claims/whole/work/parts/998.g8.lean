/-! GEOMETRY: the drawn curve is the list of edges with their corners, whole -/
theorem cnt_snoc (p : Int → Bool) : ∀ (m : Nat) (k : Int), cnt p (m + 1) k = cnt p m k + (if p (k + m) then 1 else 0)
  | 0, k => by
    show (if p k then 1 else 0) + cnt p 0 (k + 1) = cnt p 0 k + _
    rw [show k + ((0 : Nat) : Int) = k by omega]
    show _ + 0 = 0 + _
    omega
  | m + 1, k => by
    show (if p k then 1 else 0) + cnt p (m + 1) (k + 1) = ((if p k then 1 else 0) + cnt p m (k + 1)) + _
    rw [cnt_snoc p m (k + 1), show k + 1 + (m : Int) = k + ((m + 1 : Nat) : Int) by omega]
    omega
section DD
variable {I J V : Int → Int}
def DJ (I J V : Int → Int) (s : CS) (ne : Int) (fo la tl tg : Int → Int) (K : KS) : Prop := (KP s K ∧ srtK K ∧ HD K ne (cFI s) (cLS s) ∧ (∀ e, -1 ≤ cFI s e ∧ -1 ≤ cLS s e) ∧ cNE s = ne ∧ 0 ≤ ne) ∧ ∀ e, 0 ≤ e → e < ne → (cFO s e = fo e ∧ cLA s e = la e) ∧ edO I J V K (fo e) (la e) (cFI s e) (tl e) ∧ edO I J V K (fo e) (la e) (cLS s e) (tg e)
theorem HD_sw {K : KS} {ne : Int} {fi ls : Int → Int} (h : HD K ne fi ls) : HD K ne ls fi := fun k k0 k1 => by
  rw [h k k0 k1]
  exact cnt_congr _ _ (fun e _ _ => Bool.or_comm _ _)
theorem DJ_new {s : CS} {ne a b : Int} {fo la tl tg : Int → Int} {K : KS} (h : DJ I J V s ne fo la tl tg K) : DJ I J V (ad1 s a b) (ne + 1) (updF fo ne a) (updF la ne b) (updF tl ne (-1)) (updF tg ne (-1)) K := by
  obtain ⟨⟨h1, h2, h3, h4, h5, h6⟩, h7⟩ := h
  have u : ∀ (f : Int → Int) (x e : Int), updF f ne x e = if e = ne then x else f e := fun f x e => rfl
  refine ⟨⟨h1, h2, fun k k0 k1 => ?_, fun e => ?_, by show cNE s + 1 = ne + 1; omega, by omega⟩, fun e e0 e1 => ?_⟩
  · show K.2.2.2.2.2 k = cnt (fun e => decide (updF (cFI s) (cNE s) (-1) e = k) || decide (updF (cLS s) (cNE s) (-1) e = k)) (ne + 1).toNat 0
    rw [h5, show (ne + 1).toNat = ne.toNat + 1 by omega, cnt_snoc, show (0 : Int) + (ne.toNat : Int) = ne by omega, u, u, if_pos rfl, if_pos rfl, decide_eq_false (show ¬ (-1 : Int) = k by omega), h3 k k0 k1]
    rw [cnt_congr (p := fun e => decide (updF (cFI s) ne (-1) e = k) || decide (updF (cLS s) ne (-1) e = k)) (q := fun e => decide (cFI s e = k) || decide (cLS s e = k)) _ _ (fun e e0 e1 => by rw [u, u, if_neg (by omega), if_neg (by omega)])]
    simp
  · show -1 ≤ updF (cFI s) (cNE s) (-1) e ∧ -1 ≤ updF (cLS s) (cNE s) (-1) e
    have := h4 e
    unfold updF; split <;> omega
  · show (updF (cFO s) (cNE s) a e = _ ∧ updF (cLA s) (cNE s) b e = _) ∧ edO I J V K _ _ (updF (cFI s) (cNE s) (-1) e) _ ∧ edO I J V K _ _ (updF (cLS s) (cNE s) (-1) e) _
    rw [h5, u, u, u, u, u, u, u, u]
    by_cases q : e = ne
    · rw [if_pos q, if_pos q, if_pos q, if_pos q, if_pos q, if_pos q, if_pos q, if_pos q]
      exact ⟨⟨rfl, rfl⟩, Or.inl ⟨rfl, rfl⟩, Or.inl ⟨rfl, rfl⟩⟩
    · rw [if_neg q, if_neg q, if_neg q, if_neg q, if_neg q, if_neg q, if_neg q, if_neg q]
      exact h7 e e0 (by omega)
theorem DJ_F {s : CS} {ne e a b l : Int} {fo la tl tg : Int → Int} {K : KS} (h : DJ I J V s ne fo la tl tg K) (e0 : 0 ≤ e) (e1 : e < ne) (ha : fo e = a) (hb : la e = b) (hl0 : tl e = -1) (hg0 : tg e = -1) (ht : l ≠ -1 → trE I J a b l ≠ 0) (hcap : (if l = -1 then K else kpt I J V K a b l).1 ≤ 75) : DJ I J V (adF I J V s e a b l) ne fo la (updF tl e l) tg (if l = -1 then K else kpt I J V K a b l) := by
  obtain ⟨⟨h1, h2, h3, h4, h5, h6⟩, h7⟩ := h
  unfold adF
  by_cases c : l = -1
  · rw [if_pos c, if_pos c]
    refine ⟨⟨h1, h2, h3, h4, h5, h6⟩, fun t t0 t1 => ?_⟩
    have e3 : updF tl e l t = tl t := by unfold updF; split; (rename_i q; rw [q, hl0, c]); rfl
    rw [e3]; exact h7 t t0 t1
  · rw [if_neg c] at hcap ⊢
    rw [if_neg c]
    obtain ⟨p1, p2, p3, p4, p5, p6, p7⟩ := cor_st (I := I) (J := J) (V := V) h1 hcap
    have hA := (kcA_sp (x := cpX I J V a b l) (xd := cpXD I J V a b l) (y := cpY I J V a b l) (yd := cpYD I J V a b l) h2.1).1
    have hA : 0 ≤ apt I J V K a b l := hA.1
    obtain ⟨⟨q1, q2⟩, q3, q4⟩ := h7 e e0 e1
    have fe : cFI s e = -1 := by rw [hl0] at q3; rcases q3 with k | k; exact k.1; exact absurd rfl k.2.1
    have le : cLS s e = -1 := by rw [hg0] at q4; rcases q4 with k | k; exact k.1; exact absurd rfl k.2.1
    have hh := HD_st (I := I) (J := J) (V := V) (a := a) (b := b) (l := l) h2 h3 e0 e1 fe (fun _ => by rw [le]; omega) (fun t => (h4 t).2) (fun t => (h4 t).1)
    have hr := cp_red (V := V) (ht c)
    have cfi : cFI (sFI (corT I J V s a b l) e (corA I J V s a b l)) = updF (fun e => if fpt I J V K a b l then cFI s e else bm1 (apt I J V K a b l) (cFI s e)) e (apt I J V K a b l) := by
      show updF (cFI (corT I J V s a b l)) e (corA I J V s a b l) = _
      rw [p6, p2]
    have cls : cLS (sFI (corT I J V s a b l) e (corA I J V s a b l)) = (fun e => if fpt I J V K a b l then cLS s e else bm1 (apt I J V K a b l) (cLS s e)) := p7
    have bb : ∀ c, -1 ≤ c → -1 ≤ bm1 (apt I J V K a b l) c := fun c hc => by unfold bm1; split <;> omega
    refine ⟨⟨p1, kcS_srt h2 hr, by rw [cfi, cls]; exact hh, fun t => ?_, p3.trans h5, h6⟩, fun t t0 t1 => ?_⟩
    · rw [cfi, cls]
      have := h4 t
      have b1 := bb _ this.1
      have b2 := bb _ this.2
      unfold updF
      by_cases f : fpt I J V K a b l
      · simp only [if_pos f]; split <;> omega
      · simp only [if_neg f]; split <;> omega
    · rw [cfi, cls]
      obtain ⟨⟨x1, x2⟩, x3, x4⟩ := h7 t t0 t1
      refine ⟨⟨by show cFO (corT I J V s a b l) t = _; rw [p4]; exact x1, by show cLA (corT I J V s a b l) t = _; rw [p5]; exact x2⟩, ?_, edO_st h2 x4⟩
      unfold updF
      by_cases q : t = e
      · rw [if_pos q, if_pos q, q, ha, hb]; exact edO_nw h2 (ht c) c
      · rw [if_neg q, if_neg q]; exact edO_st h2 x3
theorem DJ_G {s : CS} {ne e a b g : Int} {fo la tl tg : Int → Int} {K : KS} (h : DJ I J V s ne fo la tl tg K) (e0 : 0 ≤ e) (e1 : e < ne) (ha : fo e = a) (hb : la e = b) (hg0 : tg e = -1) (ht : g ≠ -1 → trE I J a b g ≠ 0) (hne : g ≠ -1 → tl e ≠ -1 → ¬ (cpX I J V a b (tl e) = cpX I J V a b g ∧ cpXD I J V a b (tl e) = cpXD I J V a b g ∧ cpY I J V a b (tl e) = cpY I J V a b g ∧ cpYD I J V a b (tl e) = cpYD I J V a b g)) (hcap : (if g = -1 then K else kpt I J V K a b g).1 ≤ 75) : DJ I J V (adG I J V s e a b g) ne fo la tl (updF tg e g) (if g = -1 then K else kpt I J V K a b g) := by
  obtain ⟨⟨h1, h2, h3, h4, h5, h6⟩, h7⟩ := h
  unfold adG
  by_cases c : g = -1
  · rw [if_pos c, if_pos c]
    refine ⟨⟨h1, h2, h3, h4, h5, h6⟩, fun t t0 t1 => ?_⟩
    have e3 : updF tg e g t = tg t := by unfold updF; split; (rename_i q; rw [q, hg0, c]); rfl
    rw [e3]; exact h7 t t0 t1
  · rw [if_neg c] at hcap ⊢
    rw [if_neg c]
    obtain ⟨p1, p2, p3, p4, p5, p6, p7⟩ := cor_st (I := I) (J := J) (V := V) h1 hcap
    have hA := (kcA_sp (x := cpX I J V a b g) (xd := cpXD I J V a b g) (y := cpY I J V a b g) (yd := cpYD I J V a b g) h2.1).1
    have hA : 0 ≤ apt I J V K a b g := hA.1
    obtain ⟨⟨q1, q2⟩, q3, q4⟩ := h7 e e0 e1
    have le : cLS s e = -1 := by rw [hg0] at q4; rcases q4 with k | k; exact k.1; exact absurd rfl k.2.1
    have hr := cp_red (V := V) (ht c)
    have fe : fpt I J V K a b g → cFI s e ≠ apt I J V K a b g := fun f eq => by
      rw [ha, hb] at q3
      rcases q3 with k | ⟨k1, k2, k3, k4, k5, k6, k7⟩
      · omega
      · obtain ⟨y1, y2⟩ := cmp_0 f.2
        obtain ⟨z1, z2, z3, z4⟩ := red_eq (h2.2.1 _ (by show 0 ≤ apt I J V K a b g; exact hA) f.1) hr y1 y2
        rw [eq] at k4 k5 k6 k7
        exact hne c k2 ⟨k4.symm.trans z1, k5.symm.trans z2, k6.symm.trans z3, k7.symm.trans z4⟩
    have hh := HD_sw (HD_st (I := I) (J := J) (V := V) (a := a) (b := b) (l := g) h2 (HD_sw h3) e0 e1 le fe (fun t => (h4 t).1) (fun t => (h4 t).2))
    have cfi : cFI (sLS (corT I J V s a b g) e (corA I J V s a b g)) = (fun e => if fpt I J V K a b g then cFI s e else bm1 (apt I J V K a b g) (cFI s e)) := p6
    have cls : cLS (sLS (corT I J V s a b g) e (corA I J V s a b g)) = updF (fun e => if fpt I J V K a b g then cLS s e else bm1 (apt I J V K a b g) (cLS s e)) e (apt I J V K a b g) := by
      show updF (cLS (corT I J V s a b g)) e (corA I J V s a b g) = _
      rw [p7, p2]
    have bb : ∀ c, -1 ≤ c → -1 ≤ bm1 (apt I J V K a b g) c := fun c hc => by unfold bm1; split <;> omega
    refine ⟨⟨p1, kcS_srt h2 hr, by rw [cfi, cls]; exact hh, fun t => ?_, p3.trans h5, h6⟩, fun t t0 t1 => ?_⟩
    · rw [cfi, cls]
      have := h4 t
      have b1 := bb _ this.1
      have b2 := bb _ this.2
      unfold updF
      by_cases f : fpt I J V K a b g
      · simp only [if_pos f]; split <;> omega
      · simp only [if_neg f]; split <;> omega
    · rw [cfi, cls]
      obtain ⟨⟨x1, x2⟩, x3, x4⟩ := h7 t t0 t1
      refine ⟨⟨by show cFO (corT I J V s a b g) t = _; rw [p4]; exact x1, by show cLA (corT I J V s a b g) t = _; rw [p5]; exact x2⟩, edO_st h2 x3, ?_⟩
      unfold updF
      by_cases q : t = e
      · rw [if_pos q, if_pos q, q, ha, hb]; exact edO_nw h2 (ht c) c
      · rw [if_neg q, if_neg q]; exact edO_st h2 x4
def DI (I J V : Int → Int) (s : CS) (L : List EE) (K : KS) : Prop := DJ I J V s (L.length : Int) (eFo L) (eLa L) (eFi L) (eLs L) K
theorem eF_app {L : List EE} {g : EE} {e : Int} (e0 : 0 ≤ e) (e1 : e < (L.length : Int) + 1) : eFo (L ++ [g]) e = updF (eFo L) (L.length : Int) g.1 e ∧ eLa (L ++ [g]) e = updF (eLa L) (L.length : Int) g.2.1 e ∧ eFi (L ++ [g]) e = updF (eFi L) (L.length : Int) g.2.2.1 e ∧ eLs (L ++ [g]) e = updF (eLs L) (L.length : Int) g.2.2.2 e := by
  unfold eFo eLa eFi eLs updF
  by_cases q : e = (L.length : Int)
  · rw [if_pos q, if_pos q, if_pos q, if_pos q, q, Int.toNat_natCast]
    have : (L ++ [g]).getD L.length (0, 0, 0, 0) = g := by rw [List.getD_eq_getElem?_getD, List.getElem?_concat_length]; rfl
    rw [this]; exact ⟨rfl, rfl, rfl, rfl⟩
  · rw [if_neg q, if_neg q, if_neg q, if_neg q]
    have : (L ++ [g]).getD e.toNat (0, 0, 0, 0) = L.getD e.toNat (0, 0, 0, 0) := by
      rw [List.getD_eq_getElem?_getD, List.getD_eq_getElem?_getD, List.getElem?_append_left (by omega)]
    rw [this]; exact ⟨rfl, rfl, rfl, rfl⟩
theorem crE_k (K : KS) (a b l g : Int) : crE I J V K (a, b, l, g) = if g = -1 then (if l = -1 then K else kpt I J V K a b l) else kpt I J V (if l = -1 then K else kpt I J V K a b l) a b g := rfl
theorem crE_ge (K : KS) (e : EE) : K.1 ≤ (crE I J V K e).1 := by
  obtain ⟨a, b, l, g⟩ := e
  rw [crE_k]
  have h1 : K.1 ≤ (if l = -1 then K else kpt I J V K a b l).1 := by split; exact Int.le_refl _; exact kcS_m.1
  split
  · exact h1
  · exact Int.le_trans h1 kcS_m.1
theorem crF_ge : ∀ (L : List EE) (K : KS), K.1 ≤ (L.foldl (crE I J V) K).1
  | [], _ => Int.le_refl _
  | e :: r, K => Int.le_trans (crE_ge K e) (crF_ge r _)
theorem DI_add {n a b l g : Int} {s : CS} {L : List EE} {K : KS} (hR : FR n I J V) (hS : FS n I J) (h0 : 0 ≤ a) (hab : a < b) (hbn : b < n) (hst : stF n I J V a b = some (l, g)) (h : DI I J V s L K) (hcap : (crE I J V K (a, b, l, g)).1 ≤ 75) : DI I J V (addS I J V s a b l g) (L ++ [(a, b, l, g)]) (crE I J V K (a, b, l, g)) := by
  have hn := hR.1
  obtain ⟨k1, k2⟩ := stF_ok hn hst
  have tl : l ≠ -1 → trE I J a b l ≠ 0 := fun q => by rcases k1 with k | k; exact absurd k q; omega
  have tg : g ≠ -1 → trE I J a b g ≠ 0 := fun q => by rcases k2 with k | k; exact absurd k q; omega
  have hne : cNE s = (L.length : Int) := h.1.2.2.2.2.1
  have ln : 0 ≤ (L.length : Int) := by omega
  rw [crE_k] at hcap ⊢
  have c1 : (if l = -1 then K else kpt I J V K a b l).1 ≤ 75 := by
    by_cases q : g = -1
    · rw [if_pos q] at hcap; exact hcap
    · rw [if_neg q] at hcap; exact Int.le_trans kcS_m.1 hcap
  have a1 := DJ_new (a := a) (b := b) h
  have u : ∀ (f : Int → Int) (x : Int), updF f (L.length : Int) x (L.length : Int) = x := fun f x => by unfold updF; rw [if_pos rfl]
  have a2 := DJ_F (l := l) a1 ln (by omega) (u _ _) (u _ _) (u _ _) (u _ _) tl c1
  have a3 := DJ_G (g := g) a2 ln (by omega) (u _ _) (u _ _) (u _ _) tg (fun q1 q2 => by
    rw [u] at q2 ⊢
    rintro ⟨e1, e2, e3, e4⟩
    obtain ⟨le, lt⟩ := end_low hS h0 hab hbn hst q2
    obtain ⟨ge, gt⟩ := end_high hS h0 hab hbn hst q1
    have mg := (end_abl hR ge).2.2
    have mg2 : MinC n I J V a b l g := by unfold MinC; rw [e1, e2, e3, e4]; exact mg
    have fz := (end_min hR le mg2.1).mp mg2
    have pp := (le.2.2.2.2.2.2.2 g mg2.1.1 mg2.1.2 fz).1
    have := Int.nonneg_of_mul_nonneg_right pp lt
    omega) (by
    by_cases q : g = -1
    · rw [if_pos q]; exact c1
    · rw [if_neg q] at hcap ⊢; exact hcap)
  unfold DI addS
  rw [hne]
  refine ⟨?_, fun e e0 e1 => ?_⟩
  · rw [List.length_append]
    show KP _ _ ∧ srtK _ ∧ HD _ (((L.length + 1 : Nat) : Int)) _ _ ∧ _ ∧ _ = ((L.length + 1 : Nat) : Int) ∧ 0 ≤ ((L.length + 1 : Nat) : Int)
    exact a3.1
  · have e1' : e < (L.length : Int) + 1 := by rw [List.length_append] at e1; have e1 : e < ((L.length + 1 : Nat) : Int) := e1; omega
    obtain ⟨f1, f2, f3, f4⟩ := eF_app (L := L) (g := (a, b, l, g)) e0 e1'
    have z := a3.2 e e0 e1'
    have uu : ∀ (f : Int → Int) (x y : Int), updF (updF f (L.length : Int) x) (L.length : Int) y e = updF f (L.length : Int) y e := fun f x y => by unfold updF; split <;> rfl
    rw [uu, uu] at z
    rw [f1, f2, f3, f4]
    exact z
end DD
section DM
variable {n : Int} {I J V : Int → Int}
theorem edJ_app {a : Int} : ∀ (m : Nat) (b : Int) (L : List EE), ∃ R, edJ n I J V a m b L = L ++ R
  | 0, b, L => ⟨[], (List.append_nil L).symm⟩
  | m + 1, b, L => by
    obtain ⟨R, hR⟩ := edJ_app (a := a) m (b + 1) (edE n I J V L a b)
    show ∃ R, edJ n I J V a m (b + 1) (edE n I J V L a b) = L ++ R
    rw [hR]
    unfold edE
    split
    · exact ⟨R, rfl⟩
    · rename_i l g hs
      exact ⟨[(a, b, l, g)] ++ R, by rw [List.append_assoc]⟩
theorem edI_app : ∀ (m : Nat) (a : Int) (L : List EE), ∃ R, edI n I J V m a L = L ++ R
  | 0, a, L => ⟨[], (List.append_nil L).symm⟩
  | m + 1, a, L => by
    obtain ⟨R1, h1⟩ := edJ_app (n := n) (I := I) (J := J) (V := V) (a := a) (n - (a + 1)).toNat (a + 1) L
    obtain ⟨R2, h2⟩ := edI_app m (a + 1) (edJ n I J V a (n - (a + 1)).toNat (a + 1) L)
    show ∃ R, edI n I J V m (a + 1) (edJ n I J V a (n - (a + 1)).toNat (a + 1) L) = L ++ R
    rw [h2, h1]
    exact ⟨R1 ++ R2, by rw [List.append_assoc]⟩
theorem drJ_ok (hR : FR n I J V) (hS : FS n I J) {a : Int} (h0 : 0 ≤ a) : ∀ (m : Nat) (b : Int) (s : CS) (L : List EE) (K : KS), a < b → b + m ≤ n → DI I J V s L K → K = L.foldl (crE I J V) k00 → (edJ n I J V a m b L).length ≤ 114 → ((edJ n I J V a m b L).foldl (crE I J V) k00).1 ≤ 75 → DI I J V (drwJ n I J V a m b s) (edJ n I J V a m b L) ((edJ n I J V a m b L).foldl (crE I J V) k00)
  | 0, b, s, L, K, _, _, h, hK, _, _ => by rw [hK] at h; exact h
  | m + 1, b, s, L, K, hab, hbn, h, hK, c1, c2 => by
    have c1 : (edJ n I J V a m (b + 1) (edE n I J V L a b)).length ≤ 114 := c1
    have c2 : ((edJ n I J V a m (b + 1) (edE n I J V L a b)).foldl (crE I J V) k00).1 ≤ 75 := c2
    have st : DI I J V (drwE n I J V s a b) (edE n I J V L a b) ((edE n I J V L a b).foldl (crE I J V) k00) := by
      obtain ⟨R, hRR⟩ := edJ_app (n := n) (I := I) (J := J) (V := V) (a := a) m (b + 1) (edE n I J V L a b)
      rw [hRR] at c1 c2
      rw [List.foldl_append] at c2
      have c3 := Int.le_trans (crF_ge R _) c2
      rw [List.length_append] at c1
      unfold drwE
      unfold edE at c1 c3 ⊢
      have hne : cNE s = (L.length : Int) := h.1.2.2.2.2.1
      cases hst : stF n I J V a b with
      | none =>
        simp only [hst] at c1 c3 ⊢
        rw [← hK]
        split <;> exact h
      | some p =>
        obtain ⟨l, g⟩ := p
        simp only [hst] at c1 c3 ⊢
        rw [List.length_append] at c1
        have c1 : L.length + 1 + R.length ≤ 114 := c1
        rw [if_pos (by omega)]
        rw [List.foldl_append] at c3 ⊢
        rw [← hK] at c3 ⊢
        exact DI_add hR hS h0 hab (by omega) hst h c3
    exact drJ_ok hR hS h0 m (b + 1) _ _ _ (by omega) (by omega) st rfl c1 c2
theorem drI_ok (hR : FR n I J V) (hS : FS n I J) : ∀ (m : Nat) (a : Int) (s : CS) (L : List EE) (K : KS), 0 ≤ a → a + m = n → DI I J V s L K → K = L.foldl (crE I J V) k00 → (edI n I J V m a L).length ≤ 114 → ((edI n I J V m a L).foldl (crE I J V) k00).1 ≤ 75 → DI I J V (drwI n I J V m a s) (edI n I J V m a L) ((edI n I J V m a L).foldl (crE I J V) k00)
  | 0, a, s, L, K, _, _, h, hK, _, _ => by rw [hK] at h; exact h
  | m + 1, a, s, L, K, h0, hn, h, hK, c1, c2 => by
    have c1 : (edI n I J V m (a + 1) (edJ n I J V a (n - (a + 1)).toNat (a + 1) L)).length ≤ 114 := c1
    have c2 : ((edI n I J V m (a + 1) (edJ n I J V a (n - (a + 1)).toNat (a + 1) L)).foldl (crE I J V) k00).1 ≤ 75 := c2
    obtain ⟨R, hRR⟩ := edI_app (n := n) (I := I) (J := J) (V := V) m (a + 1) (edJ n I J V a (n - (a + 1)).toNat (a + 1) L)
    have d1 := c1
    have d2 := c2
    rw [hRR] at d1 d2
    rw [List.foldl_append] at d2
    rw [List.length_append] at d1
    have st := drJ_ok hR hS h0 (n - (a + 1)).toNat (a + 1) s L K (by omega) (by omega) h hK (by omega) (Int.le_trans (crF_ge R _) d2)
    exact drI_ok hR hS m (a + 1) _ _ _ (by omega) (by omega) st rfl c1 c2
theorem drw_ok (hR : FR n I J V) (hS : FS n I J) : drOK n I J V := by
  obtain ⟨c1, c2⟩ := cap_le hR hS
  have h := drI_ok hR hS n.toNat 0 c00 [] k00 (Int.le_refl _) (by have := hR.1; omega) ⟨⟨⟨rfl, rfl, rfl, rfl, rfl⟩, ⟨Int.le_refl _, fun i i0 i1 => absurd i1 (by show ¬ i < 0; omega), fun i j i0 ij j1 => absurd j1 (by show ¬ j < 0; omega)⟩, fun k k0 k1 => absurd k1 (by show ¬ k < 0; omega), fun e => ⟨by show -1 ≤ (0 : Int); decide, by show -1 ≤ (0 : Int); decide⟩, rfl, Int.le_refl _⟩, fun e e0 e1 => absurd e1 (by show ¬ e < ((0 : Nat) : Int); omega)⟩ rfl c1 c2
  have h : DI I J V (drwS n I J V) (edL n I J V) (crL n I J V) := h
  obtain ⟨⟨⟨p1, p2, p3, p4, p5⟩, h2, h3, h4, h5, h6⟩, h7⟩ := h
  refine ⟨h5, p1, fun k k0 k1 => ⟨⟨by rw [p2], by rw [p3], by rw [p4], by rw [p5]⟩, by rw [h5]; exact h3 k k0 k1⟩, fun e e0 e1 => h7 e e0 e1⟩
end DM
