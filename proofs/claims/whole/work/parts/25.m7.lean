def shG (G : Int → Option Int) (u v N : Int) : Int → Option Int := fun p => if 0 ≤ p ∧ p < N then (G p).map (fun x => x + (p / 9 * u + p % 9 * v)) else G p
theorem shG_0 (G : Int → Option Int) (u v : Int) : shG G u v 0 = G := by funext p; unfold shG; rw [if_neg (by omega)]
theorem shG_no {G : Int → Option Int} {u v N : Int} (h : G N = none) : shG G u v (N + 1) = shG G u v N := by
  funext p; unfold shG
  by_cases e : p = N
  · subst e; rw [h]; simp
  · by_cases h1 : 0 ≤ p ∧ p < N
    · rw [if_pos h1, if_pos (by omega)]
    · rw [if_neg h1, if_neg (by omega)]
theorem DH_sh {z : ZM} {q : Nat} {G : Int → Option Int} {u v N x : Int} (h : DH z q (shG G u v N)) (h0 : 0 ≤ N) (hx : G N = some x) : DH (zput z (q + 1) N (x + (N / 9 * u + N % 9 * v))) q (shG G u v (N + 1)) := by
  intro p p0 p1
  unfold zput shG
  by_cases e : p = N
  · subst e; rw [if_pos ⟨rfl, rfl⟩, if_pos (by omega), hx]; rfl
  · rw [if_neg (fun z => e z.2), h p p0 p1]
    unfold shG
    by_cases h1 : 0 ≤ p ∧ p < N
    · rw [if_pos h1, if_pos (by omega)]
    · rw [if_neg h1, if_neg (by omega)]
theorem DR_sh {G : Int → Option Int} {u v N B : Int} (h : DR G B) (hu : -10 ≤ u ∧ u ≤ 10) (hv : -10 ≤ v ∧ v ≤ 10) (hN : N ≤ 81) : DR (shG G u v N) (B + 160) := by
  intro p y hy
  unfold shG at hy
  by_cases h1 : 0 ≤ p ∧ p < N
  · rw [if_pos h1] at hy
    cases hG : G p with
    | none => rw [hG] at hy; cases hy
    | some x =>
      rw [hG] at hy
      have hx := h p x hG
      have a1 := mb (a := p / 9) (A := 8) (B := 10) (by omega) (by omega) hu.1 hu.2
      have a2 := mb (a := p % 9) (A := 8) (B := 10) (by omega) (by omega) hv.1 hv.2
      have hy : x + (p / 9 * u + p % 9 * v) = y := Option.some.inj hy
      omega
  · rw [if_neg h1] at hy
    have := h p y hy; omega
set_option maxHeartbeats 2000000 in
theorem w_shift {X : PX} {d : Nat} {S : SS} {zI zL : ZM} {Q : PQ} {q : Nat} {G : Int → Option Int} {B u v : Int} (hD : isDraft S q) (hG : DH zI q G) (hB : DR G B) (h1 : B + 160 < 1000000) (hu : -10 ≤ u ∧ u ≤ 10) (hv : -10 ≤ v ∧ v ≤ 10) (hQ : ∀ z, dP zI z q (shG G u v 81) → Q none S z zL) : wpM X (d + 2) fDraft_shift [pR q, pI u, pI v] S zI zL Q := by
  have hob := hD.1
  have hr := hD.2.1
  have hf := hD.2.2
  have i01 : inI 1 := by unfold inI; omega
  have i9 : inI 9 := by unfold inI; omega
  have key : ∀ p : Int, p ≤ 81 → 0 ≤ p → ∀ (z : ZM), (∀ c, c ≠ q + 1 → z c = zI c) → DH z q (shG G u v p) → Run X (d + 1) c_Draft_shift 2 [some (pR q), some (pI u), some (pI v), some (pI p)] [] S z zL 0 0 Q := by
    refine loop_up _ 81 (fun p hk ih h0 z hz hG' => ?_)
    have hB' := DR_sh (N := p) hB hu hv hk
    have ed := td9 h0
    have em := tm9 h0
    have hin : inI p := by unfold inI; omega
    refine r_iload_n rfl rfl ?_
    refine r_bipush rfl ?_
    refine r_icmp_ge rfl (by unfold inI; omega) (by unfold inI; omega) (fun h4 => ?_) (fun h4 => ?_)
    · skip
      refine r_ret rfl ?_
      rw [show p = 81 by omega] at hG'; exact hQ _ ⟨hz, hG'⟩
    · skip
      refine r_aload_n rfl rfl ?_
      refine r_iload_n rfl rfl ?_
      refine r_cV2 rfl (by assumption) (Nat.le_of_ble_eq_true rfl) rfl rfl (w_has hD hG' hB' (by omega) h0 (by omega) ?_)
      cases hu1 : G p with
      | none =>
        have e : shG G u v p p = none := by unfold shG; rw [if_neg (by omega)]; exact hu1
        rw [e]
        refine r_if_eq rfl in0 (fun _ => ?_) (fun h => absurd rfl h)
        refine r_iinc rfl rfl ?_
        refine r_goto rfl ?_
        exact ih (by omega) (by omega) z hz (by rw [shG_no hu1]; exact hG')
      | some x =>
        have e : shG G u v p p = some x := by unfold shG; rw [if_neg (by omega)]; exact hu1
        have ex : z (q + 1) p = x := by rw [hG' p h0 (by omega), e]; rfl
        rw [e]
        refine r_if_eq rfl i01 (fun h => absurd (show (1 : Int) = 0 from h) (by decide)) (fun _ => ?_)
        refine r_aload_n rfl rfl ?_
        refine r_getR rfl (by assumption) (by assumption) ?_
        refine r_iload_n rfl rfl ?_
        refine r_dup2 rfl ?_
        refine r_iald rfl (by assumption) (by omega) (by omega) ?_
        rw [ex]
        refine r_iload_n rfl rfl ?_
        refine r_bipush rfl ?_
        refine r_idiv rfl hin i9 (by decide) ?_
        rw [ed]
        refine r_iload_n rfl rfl ?_
        refine r_imul rfl ?_
        refine r_iload_n rfl rfl ?_
        refine r_bipush rfl ?_
        refine r_irem rfl hin i9 (by decide) ?_
        rw [em]
        refine r_iload_n rfl rfl ?_
        refine r_imul rfl ?_
        refine r_iadd rfl ?_
        refine r_iadd rfl ?_
        refine r_iast rfl (by assumption) (by omega) (by omega) ?_
        refine r_iinc rfl rfl ?_
        refine r_goto rfl ?_
        exact ih (by omega) (by omega) _ (fun c hc => by rw [← hz c hc]; exact zput_row hc) (DH_sh hG' h0 hu1)
  refine wp_in (C := c_Draft_shift) (ls := [some (pR q), some (pI u), some (pI v), none]) rfl rfl rfl rfl rfl ?_
  refine r_iconst rfl ?_
  refine r_istore_n rfl (Nat.le_of_ble_eq_true rfl) ?_
  exact key 0 (by omega) (Int.le_refl _) _ (fun _ _ => rfl) (by rw [shG_0]; exact hG)
def fitT (G : Int → Option Int) : Nat → Int → Int → Bool
  | 0, _, n => decide (n ≤ 40)
  | m + 1, p, n => match G p with
    | none => fitT G m (p + 1) n
    | some v => if -200 ≤ v ∧ v ≤ 200 then fitT G m (p + 1) (n + 1) else false
theorem fitT_n {G : Int → Option Int} {N p n : Int} (h : p < N) (hG : G p = none) : fitT G (N - p).toNat p n = fitT G (N - (p + 1)).toNat (p + 1) n := by
  rw [show (N - p).toNat = (N - (p + 1)).toNat + 1 by omega]
  show (match G p with | none => _ | some v => _) = _
  rw [hG]
theorem fitT_s {G : Int → Option Int} {N p n v : Int} (h : p < N) (hG : G p = some v) : fitT G (N - p).toNat p n = if -200 ≤ v ∧ v ≤ 200 then fitT G (N - (p + 1)).toNat (p + 1) (n + 1) else false := by
  rw [show (N - p).toNat = (N - (p + 1)).toNat + 1 by omega]
  show (match G p with | none => _ | some v => _) = _
  rw [hG]
theorem fitT_e {G : Int → Option Int} {N p n : Int} (h : N ≤ p) : fitT G (N - p).toNat p n = decide (n ≤ 40) := by rw [show (N - p).toNat = 0 by omega]; rfl
def fitG (G : Int → Option Int) : Bool := fitT G 81 0 0
theorem w_fits {X : PX} {d : Nat} {S : SS} {zI zL : ZM} {Q : PQ} {q : Nat} {G : Int → Option Int} {B : Int} (hD : isDraft S q) (hG : DH zI q G) (hB : DR G B) (h1 : B < 1000000) (hQ : Q (some (pI (if fitG G then 1 else 0))) S zI zL) : wpM X (d + 2) fDraft_fits [pR q] S zI zL Q := by
  have hob := hD.1
  have hr := hD.2.1
  have hf := hD.2.2
  have i01 : inI 1 := by unfold inI; omega
  have key : ∀ p : Int, p ≤ 81 → 0 ≤ p → ∀ n : Int, 0 ≤ n → n ≤ p → fitT G (81 - p).toNat p n = fitG G → Run X (d + 1) c_Draft_fits 4 [some (pR q), some (pI n), some (pI p)] [] S zI zL 0 0 Q := by
    refine loop_up _ 81 (fun p hk ih h0 n hn0 hnp hs => ?_)
    have hin : inI p := by unfold inI; omega
    refine r_iload_n rfl rfl ?_
    refine r_bipush rfl ?_
    refine r_icmp_ge rfl (by unfold inI; omega) (by unfold inI; omega) (fun h6 => ?_) (fun h6 => ?_)
    · skip
      refine r_iload_n rfl rfl ?_
      refine r_bipush rfl ?_
      refine r_icmp_gt rfl (by unfold inI; omega) (by unfold inI; omega) (fun h26 => ?_) (fun h26 => ?_)
      · skip
        refine r_iconst rfl ?_
        refine r_zret rfl (by first | exact Or.inl rfl | exact Or.inr rfl) ?_
        rw [fitT_e (by omega), decide_eq_false (by omega)] at hs; rw [← hs] at hQ; exact hQ
      · skip
        refine r_iconst rfl ?_
        refine r_goto rfl ?_
        refine r_zret rfl (by first | exact Or.inl rfl | exact Or.inr rfl) ?_
        rw [fitT_e (by omega), decide_eq_true (by omega)] at hs; rw [← hs] at hQ; exact hQ
    · skip
      refine r_aload_n rfl rfl ?_
      refine r_iload_n rfl rfl ?_
      refine r_cV2 rfl (by assumption) (Nat.le_of_ble_eq_true rfl) rfl rfl (w_has hD hG hB (by omega) h0 (by omega) ?_)
      cases hu1 : G p with
      | none =>
        refine r_if_eq rfl in0 (fun _ => ?_) (fun h => absurd rfl h)
        refine r_iinc rfl rfl ?_
        refine r_goto rfl ?_
        exact ih (by omega) (by omega) n hn0 (by omega) (by rw [fitT_n (by omega) hu1] at hs; exact hs)
      | some x =>
        have ex : zI (q + 1) p = x := by rw [hG p h0 (by omega), hu1]; rfl
        have hx := hB p x hu1
        rw [fitT_s (by omega) hu1] at hs
        refine r_if_eq rfl i01 (fun h => absurd (show (1 : Int) = 0 from h) (by decide)) (fun _ => ?_)
        refine r_iinc rfl rfl ?_
        refine r_aload_n rfl rfl ?_
        refine r_getR rfl (by assumption) (by assumption) ?_
        refine r_iload_n rfl rfl ?_
        refine r_iald rfl (by assumption) (by omega) (by omega) ?_
        rw [ex]
        refine r_sipush rfl ?_
        refine r_sipush rfl ?_
        refine r_cS3 rfl (by decide) (Nat.le_of_ble_eq_true rfl) rfl rfl (w_within (by unfold inI; omega) (by unfold inI; omega) (by unfold inI; omega) ?_)
        by_cases hw : -200 ≤ x ∧ x ≤ 200
        · rw [if_pos hw] at hs ⊢
          refine r_if_ne rfl i01 (fun _ => ?_) (fun h => absurd h (by decide))
          refine r_iinc rfl rfl ?_
          refine r_goto rfl ?_
          exact ih (by omega) (by omega) (n + 1) (by omega) (by omega) hs
        · rw [if_neg hw] at hs ⊢
          refine r_if_ne rfl in0 (fun h => absurd rfl h) (fun _ => ?_)
          refine r_iconst rfl ?_
          refine r_zret rfl (Or.inl rfl) ?_
          rw [← hs] at hQ; exact hQ
  refine wp_in (C := c_Draft_fits) (ls := [some (pR q), none, none]) rfl rfl rfl rfl rfl ?_
  refine r_iconst rfl ?_
  refine r_istore_n rfl (Nat.le_of_ble_eq_true rfl) ?_
  refine r_iconst rfl ?_
  refine r_istore_n rfl (Nat.le_of_ble_eq_true rfl) ?_
  exact key 0 (by omega) (Int.le_refl _) 0 (Int.le_refl _) (Int.le_refl _) rfl
/-! pouring a table into a form without TERMS -/
abbrev FV : Type := Int × (Int → Int) × (Int → Int) × (Int → Int)
def apV (F : FV) (a b v : Int) : FV := (F.1 + 1, updF F.2.1 F.1 a, updF F.2.2.1 F.1 b, updF F.2.2.2 F.1 v)
def pourT (G : Int → Option Int) : Nat → Int → FV → FV
  | 0, _, F => F
  | m + 1, p, F => pourT G m (p + 1) (match G p with | none => F | some v => apV F (p / 9) (p % 9) v)
def F0V : FV := (0, fun _ => 0, fun _ => 0, fun _ => 0)
def pourV (G : Int → Option Int) : FV := pourT G 81 0 F0V
theorem pourT_s {G : Int → Option Int} {N p : Int} {F : FV} (h : p < N) : pourT G (N - p).toNat p F = pourT G (N - (p + 1)).toNat (p + 1) (match G p with | none => F | some v => apV F (p / 9) (p % 9) v) := by
  rw [show (N - p).toNat = (N - (p + 1)).toNat + 1 by omega]; rfl
theorem pourT_e {G : Int → Option Int} {N p : Int} {F : FV} (h : N ≤ p) : pourT G (N - p).toNat p F = F := by rw [show (N - p).toNat = 0 by omega]; rfl
def FHv (z : ZM) (h : Nat) (F : FV) : Prop := FH z h F.1 F.2.1 F.2.2.1 F.2.2.2
def FRv (F : FV) : Prop := FR F.1 F.2.1 F.2.2.1 F.2.2.2
def FSv (F : FV) : Prop := FS F.1 F.2.1 F.2.2.1
/-- all places of a form lie ahead of place p -/
def FBv (F : FV) (p : Int) : Prop := ∀ t, 0 ≤ t → t < F.1 → lexlt (F.2.1 t) (F.2.2.1 t) (p / 9) (p % 9)
theorem lex_next {a b p : Int} (hb : b ≤ 8) (h : lexlt a b (p / 9) (p % 9)) : lexlt a b ((p + 1) / 9) ((p + 1) % 9) := by unfold lexlt at h ⊢; omega
theorem ap_psn {F : FV} {p : Int} (hn : 0 ≤ F.1) (hb : FBv F p) : psn F.1 F.2.1 F.2.2.1 (p / 9) (p % 9) = F.1 := by
  obtain ⟨q1, q2, q3, q4⟩ := fstN_spec (fun t => !lexb (F.2.1 t) (F.2.2.1 t) (p / 9) (p % 9)) F.1.toNat 0
  unfold psn
  by_cases e : fstN (fun t => !lexb (F.2.1 t) (F.2.2.1 t) (p / 9) (p % 9)) F.1.toNat 0 < 0 + (F.1.toNat : Int)
  · have := q3 e
    have h2 := hb _ q1 (by omega)
    exact absurd h2 (nlex_f.mp this)
  · omega
theorem ap_FR {F : FV} {p v : Int} (h : FRv F) (hn : F.1 < 40) (hp : 0 ≤ p ∧ p < 81) (hv : -200 ≤ v ∧ v ≤ 200) : FRv (apV F (p / 9) (p % 9) v) := by
  obtain ⟨h0, h1, h2⟩ := h
  refine ⟨by show 0 ≤ F.1 + 1; omega, by show F.1 + 1 ≤ 40; omega, fun t t0 t1 => ?_⟩
  have t1 : t < F.1 + 1 := t1
  show 0 ≤ updF F.2.1 F.1 (p / 9) t ∧ updF F.2.1 F.1 (p / 9) t ≤ 8 ∧ 0 ≤ updF F.2.2.1 F.1 (p % 9) t ∧ updF F.2.2.1 F.1 (p % 9) t ≤ 8 ∧ -200 ≤ updF F.2.2.2 F.1 v t ∧ updF F.2.2.2 F.1 v t ≤ 200
  unfold updF
  by_cases e : t = F.1
  · rw [if_pos e, if_pos e, if_pos e]; omega
  · rw [if_neg e, if_neg e, if_neg e]; exact h2 t t0 (by omega)
theorem ap_FB {F : FV} {p v : Int} (h : FRv F) (hb : FBv F p) : FBv (apV F (p / 9) (p % 9) v) (p + 1) := by
  intro t t0 t1
  have t1 : t < F.1 + 1 := t1
  show lexlt (updF F.2.1 F.1 (p / 9) t) (updF F.2.2.1 F.1 (p % 9) t) _ _
  unfold updF
  by_cases e : t = F.1
  · rw [if_pos e, if_pos e]; unfold lexlt; omega
  · rw [if_neg e, if_neg e]
    have hr := h.2.2 t t0 (by omega)
    exact lex_next hr.2.2.2.1 (hb t t0 (by omega))
theorem ap_FS {F : FV} {p v : Int} (h : FSv F) (hb : FBv F p) : FSv (apV F (p / 9) (p % 9) v) := by
  intro s t s0 st t1
  have t1 : t < F.1 + 1 := t1
  show lexlt (updF F.2.1 F.1 (p / 9) s) (updF F.2.2.1 F.1 (p % 9) s) (updF F.2.1 F.1 (p / 9) t) (updF F.2.2.1 F.1 (p % 9) t)
  unfold updF
  rw [if_neg (by omega), if_neg (by omega)]
  by_cases e : t = F.1
  · rw [if_pos e, if_pos e]; exact hb s s0 (by omega)
  · rw [if_neg e, if_neg e]; exact h s t s0 st (by omega)
theorem FB_next {F : FV} {p : Int} (h : FRv F) (hb : FBv F p) : FBv F (p + 1) := fun t t0 t1 => lex_next (h.2.2 t t0 t1).2.2.2.1 (hb t t0 t1)
theorem ap_FH {z z' : ZM} {h : Nat} {F : FV} {p v : Int} (hn : 0 ≤ F.1) (hb : FBv F p) (hp : putP z z' h F.1 F.2.1 F.2.2.1 F.2.2.2 (p / 9) (p % 9) v) : FHv z' h (apV F (p / 9) (p % 9) v) := by
  have e := ap_psn hn hb
  obtain ⟨-, -, -, -, h2⟩ := hp
  have h3 := h2 (fun q => by have := q.1; omega)
  rw [e] at h3
  obtain ⟨g1, g2⟩ := h3
  refine ⟨g1, fun t t0 t1 => ?_⟩
  have t1 : t < F.1 + 1 := t1
  obtain ⟨k1, k2, k3⟩ := g2 t t0 t1
  rw [k1, k2, k3]
  show insF F.2.1 F.1 (p / 9) t = updF F.2.1 F.1 (p / 9) t ∧ insF F.2.2.1 F.1 (p % 9) t = updF F.2.2.1 F.1 (p % 9) t ∧ insF F.2.2.2 F.1 v t = updF F.2.2.2 F.1 v t
  unfold insF updF
  by_cases e : t = F.1
  · subst e; simp (disch := omega) only [if_pos, if_neg, ↓reduceIte, true_and, and_true, true_or, or_true, and_self]
  · simp (disch := omega) only [if_pos, if_neg, ↓reduceIte, true_and, and_true, true_or, or_true, and_self]
def oneFrame (z z' : ZM) (h : Nat) : Prop := (∀ c, c ≠ h → c ≠ h + 1 → c ≠ h + 2 → c ≠ h + 3 → z' c = z c) ∧ z' h 3 = z h 3
theorem fit_le {G : Int → Option Int} : ∀ (m : Nat) (p n : Int), fitT G m p n = true → n ≤ 40
  | 0, _, _, h => of_decide_eq_true h
  | m + 1, p, n, h => by
    unfold fitT at h
    cases hG : G p with
    | none => rw [hG] at h; exact fit_le m (p + 1) n h
    | some v =>
      rw [hG] at h
      dsimp only at h
      split at h
      · have := fit_le m (p + 1) (n + 1) h; omega
      · cases h
set_option maxHeartbeats 2000000 in
theorem w_pour {X : PX} {d : Nat} {S : SS} {zI zL : ZM} {Q : PQ} {q h : Nat} {G : Int → Option Int} (hD : isDraft S q) (hF : isForm S h) (hqh : q + 1 < h) (hG : DH zI q G) (hfit : fitG G = true) (hB : DR G 500000) (hn : zI h 4 = 0) (h5 : zI h 5 = 0)
    (hQ : ∀ z, oneFrame zI z h → z h 5 = 0 → FHv z h (pourV G) → FRv (pourV G) → FSv (pourV G) → Q none S z zL) : wpM X (d + 3) fDraft_pour [pR q, pR h] S zI zL Q := by
  have hob := hD.1
  have hr := hD.2.1
  have hf := hD.2.2
  have hobF := hF.1
  have i01 : inI 1 := by unfold inI; omega
  have i9 : inI 9 := by unfold inI; omega
  have key : ∀ p : Int, p ≤ 81 → 0 ≤ p → ∀ (z : ZM) (F : FV), oneFrame zI z h → z h 5 = 0 → FHv z h F → FRv F → FSv F → FBv F p → fitT G (81 - p).toNat p F.1 = true → pourT G (81 - p).toNat p F = pourV G → Run X (d + 2) c_Draft_pour 2 [some (pR q), some (pR h), some (pI p)] [] S z zL 0 0 Q := by
    refine loop_up _ 81 (fun p hk ih h0 z F hz hz5 hH hR hS hb hft hs => ?_)
    have hin : inI p := by unfold inI; omega
    have ed := td9 h0
    have em := tm9 h0
    have hG' : DH z q G := fun k k0 k1 => by rw [hz.1 (q + 1) (by omega) (by omega) (by omega) (by omega)]; exact hG k k0 k1
    refine r_iload_n rfl rfl ?_
    refine r_bipush rfl ?_
    refine r_icmp_ge rfl (by unfold inI; omega) (by unfold inI; omega) (fun h4 => ?_) (fun h4 => ?_)
    · skip
      refine r_ret rfl ?_
      rw [pourT_e (by omega)] at hs; subst hs; exact hQ _ hz hz5 hH hR hS
    · skip
      refine r_aload_n rfl rfl ?_
      refine r_iload_n rfl rfl ?_
      refine r_cV2 rfl hob (Nat.le_of_ble_eq_true rfl) rfl rfl (w_has hD hG' hB (by omega) h0 (by omega) ?_)
      cases hu1 : G p with
      | none =>
        refine r_if_eq rfl in0 (fun _ => ?_) (fun h => absurd rfl h)
        refine r_iinc rfl rfl ?_
        refine r_goto rfl ?_
        exact ih (by omega) (by omega) z F hz hz5 hH hR hS (FB_next hR hb) (by rw [fitT_n (by omega) hu1] at hft; exact hft) (by rw [pourT_s (by omega), hu1] at hs; exact hs)
      | some x =>
        have ex : z (q + 1) p = x := by rw [hG' p h0 (by omega), hu1]; rfl
        rw [fitT_s (by omega) hu1] at hft
        by_cases hw : -200 ≤ x ∧ x ≤ 200
        case neg => rw [if_neg hw] at hft; cases hft
        rw [if_pos hw] at hft
        have hn40 : F.1 < 40 := by have := fit_le _ _ _ hft; omega
        refine r_if_eq rfl i01 (fun h => absurd (show (1 : Int) = 0 from h) (by decide)) (fun _ => ?_)
        refine r_aload_n rfl rfl ?_
        refine r_iload_n rfl rfl ?_
        refine r_bipush rfl ?_
        refine r_idiv rfl hin i9 (by decide) ?_
        rw [ed]
        refine r_iload_n rfl rfl ?_
        refine r_bipush rfl ?_
        refine r_irem rfl hin i9 (by decide) ?_
        rw [em]
        refine r_aload_n rfl rfl ?_
        refine r_getR rfl (by assumption) (by assumption) ?_
        refine r_iload_n rfl rfl ?_
        refine r_iald rfl (by assumption) (by omega) (by omega) ?_
        rw [ex]
        refine r_cV4 rfl hobF (Nat.le_of_ble_eq_true rfl) rfl rfl (w_put hF hH hR (by omega) (by omega) (Or.inr hn40) (fun z2 hp2 => ?_))
        refine r_iinc rfl rfl ?_
        refine r_goto rfl ?_
        exact ih (by omega) (by omega) z2 (apV F (p / 9) (p % 9) x) ⟨fun c c0 c1 c2 c3 => (hp2.1 c c0 c1 c2 c3).trans (hz.1 c c0 c1 c2 c3), hp2.2.1.trans hz.2⟩ hp2.2.2.1 (ap_FH hR.1 hb hp2) (ap_FR hR hn40 ⟨h0, by omega⟩ hw) (ap_FS hS hb) (ap_FB hR hb) hft (by rw [pourT_s (by omega), hu1] at hs; exact hs)
  refine wp_in (C := c_Draft_pour) (ls := [some (pR q), some (pR h), none]) rfl rfl rfl rfl rfl ?_
  refine r_iconst rfl ?_
  refine r_istore_n rfl (Nat.le_of_ble_eq_true rfl) ?_
  exact key 0 (by omega) (Int.le_refl _) _ F0V ⟨fun _ _ _ _ _ => rfl, rfl⟩ h5 ⟨hn, fun t t0 t1 => absurd t1 (by show ¬ t < 0; omega)⟩ ⟨Int.le_refl _, by show (0 : Int) ≤ 40; omega, fun t t0 t1 => absurd t1 (by show ¬ t < 0; omega)⟩ (fun s t s0 st t1 => absurd t1 (by show ¬ t < 0; omega)) (fun t t0 t1 => absurd t1 (by show ¬ t < 0; omega)) hfit rfl
