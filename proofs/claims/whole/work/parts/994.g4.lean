/-! GEOMETRY: the corners in their order -/
theorem cmp_anti (X XD Y YD x xd y yd : Int) : cmpP x xd y yd X XD Y YD = -cmpP X XD Y YD x xd y yd := by
  unfold cmpP
  have e : x * XD - X * xd = -(X * xd - x * XD) := by omega
  by_cases c : X * xd - x * XD = 0
  · rw [if_pos c, if_pos (by omega)]; omega
  · rw [if_neg c, if_neg (by omega)]; omega
theorem cmp_tr {a1 b1 c1 d1 a2 b2 c2 d2 a3 b3 c3 d3 : Int} (p1 : 0 < b1 ∧ 0 < d1) (p2 : 0 < b2 ∧ 0 < d2) (p3 : 0 < b3 ∧ 0 < d3) (h1 : cmpP a1 b1 c1 d1 a2 b2 c2 d2 ≤ 0) (h2 : cmpP a2 b2 c2 d2 a3 b3 c3 d3 < 0) : cmpP a1 b1 c1 d1 a3 b3 c3 d3 < 0 := by
  have x1 : a1 * b2 - a2 * b1 ≤ 0 := by unfold cmpP at h1; split at h1 <;> omega
  have x2 : a2 * b3 - a3 * b2 ≤ 0 := by unfold cmpP at h2; split at h2 <;> omega
  by_cases e1 : a1 * b2 - a2 * b1 = 0
  · by_cases e2 : a2 * b3 - a3 * b2 = 0
    · have y1 : c1 * d2 - c2 * d1 ≤ 0 := by unfold cmpP at h1; rw [if_pos e1] at h1; exact h1
      have y2 : c2 * d3 - c3 * d2 < 0 := by unfold cmpP at h2; rw [if_pos e2] at h2; exact h2
      have g1 := fr_tr (a := a1) (b := b1) (c := a2) (d := b2) (e := a3) (f := b3) p1.1 p2.1 p3.1 (by omega) (by omega)
      have g2 := fr_tr (a := a3) (b := b3) (c := a2) (d := b2) (e := a1) (f := b1) p3.1 p2.1 p1.1 (by omega) (by omega)
      have g3 := fr_lt (a := c1) (b := d1) (c := c2) (d := d2) (e := c3) (f := d3) p1.2 p2.2 p3.2 (by omega) (by omega)
      unfold cmpP
      rw [if_pos (by omega)]
      omega
    · have g := fr_lt (a := a1) (b := b1) (c := a2) (d := b2) (e := a3) (f := b3) p1.1 p2.1 p3.1 (by omega) (by omega)
      unfold cmpP
      rw [if_neg (by omega)]
      omega
  · have g := fr_lt2 (a := a1) (b := b1) (c := a2) (d := b2) (e := a3) (f := b3) p1.1 p2.1 p3.1 (by omega) (by omega)
    unfold cmpP
    rw [if_neg (by omega)]
    omega
/-- in lowest terms -/
def redP (x xd y yd : Int) : Prop := (0 < xd ∧ 0 < yd) ∧ Nat.gcd x.natAbs xd.natAbs = 1 ∧ Nat.gcd y.natAbs yd.natAbs = 1
theorem red_u {a b c d : Int} (hb : 0 < b) (hd : 0 < d) (h1 : Nat.gcd a.natAbs b.natAbs = 1) (h2 : Nat.gcd c.natAbs d.natAbs = 1) (h : a * d = c * b) : a = c ∧ b = d := by
  have e : a.natAbs * d.natAbs = c.natAbs * b.natAbs := by rw [← Int.natAbs_mul, ← Int.natAbs_mul, h]
  have k1 : b.natAbs ∣ d.natAbs := by
    have : b.natAbs ∣ a.natAbs * d.natAbs := by rw [e]; exact Nat.dvd_mul_left _ _
    exact (Nat.Coprime.dvd_of_dvd_mul_left (Nat.Coprime.symm h1) this)
  have k2 : d.natAbs ∣ b.natAbs := by
    have : d.natAbs ∣ c.natAbs * b.natAbs := by rw [← e]; exact Nat.dvd_mul_left _ _
    exact (Nat.Coprime.dvd_of_dvd_mul_left (Nat.Coprime.symm h2) this)
  have k3 := Nat.dvd_antisymm k1 k2
  have k4 : b = d := by omega
  refine ⟨?_, k4⟩
  rw [k4] at h
  exact Int.eq_of_mul_eq_mul_right (by omega) h
theorem rd_red {x b : Int} (hb : b ≠ 0) : 0 < rdB x b ∧ Nat.gcd (rdA x b).natAbs (rdB x b).natAbs = 1 := by
  have hr := rd_b (x := x) (b := b) (A := x.natAbs + 1) (B := b.natAbs + 1) (by omega) (by omega) hb
  refine ⟨by omega, ?_⟩
  have hne : Nat.gcd x.natAbs b.natAbs ≠ 0 := fun e => by
    have := Nat.eq_zero_of_gcd_eq_zero_right e
    omega
  have hs : (sg b * gc x b).natAbs = Nat.gcd x.natAbs b.natAbs := by
    rw [Int.natAbs_mul]
    have h1 : (sg b).natAbs = 1 := by unfold sg; split <;> rfl
    have h2 : (gc x b).natAbs = Nat.gcd x.natAbs b.natAbs := by unfold gc; rw [if_neg hne]; rfl
    rw [h1, h2, Nat.one_mul]
  unfold rdA rdB
  rw [Int.natAbs_tdiv, Int.natAbs_tdiv, hs]
  show Nat.gcd (x.natAbs / Nat.gcd x.natAbs b.natAbs) (b.natAbs / Nat.gcd x.natAbs b.natAbs) = 1
  rw [Nat.gcd_div (Nat.gcd_dvd_left _ _) (Nat.gcd_dvd_right _ _), Nat.div_self (Nat.pos_of_ne_zero hne)]
theorem cp_red {I J V : Int → Int} {a b l : Int} (ht : trE I J a b l ≠ 0) : redP (cpX I J V a b l) (cpXD I J V a b l) (cpY I J V a b l) (cpYD I J V a b l) := by
  have h1 := rd_red (x := cnX I J V a b l) ht
  have h2 := rd_red (x := cnY I J V a b l) ht
  exact ⟨⟨h1.1, h2.1⟩, h1.2, h2.2⟩
theorem red_eq {x xd y yd x' xd' y' yd' : Int} (h : redP x xd y yd) (h' : redP x' xd' y' yd') (e1 : x * xd' = x' * xd) (e2 : y * yd' = y' * yd) : x = x' ∧ xd = xd' ∧ y = y' ∧ yd = yd' := by
  have a := red_u h.1.1 h'.1.1 h.2.1 h'.2.1 e1
  have b := red_u h.1.2 h'.1.2 h.2.2 h'.2.2 e2
  exact ⟨a.1, a.2, b.1, b.2⟩
theorem cmp_0 {x xd y yd x' xd' y' yd' : Int} (h : cmpP x xd y yd x' xd' y' yd' = 0) : x * xd' = x' * xd ∧ y * yd' = y' * yd := by
  unfold cmpP at h
  by_cases c : x * xd' - x' * xd = 0
  · rw [if_pos c] at h; omega
  · rw [if_neg c] at h; exact absurd h c
theorem fstN_sp (p : Int → Bool) : ∀ (m : Nat) (k : Int), (k ≤ fstN p m k ∧ fstN p m k ≤ k + m) ∧ (∀ t, k ≤ t → t < fstN p m k → p t = false) ∧ (fstN p m k < k + m → p (fstN p m k) = true)
  | 0, k => ⟨⟨Int.le_refl _, by show k ≤ k + 0; omega⟩, fun t t0 t1 => by have : t < k := t1; omega, fun h => by have : k < k + 0 := h; omega⟩
  | m + 1, k => by
    unfold fstN
    by_cases h : p k = true
    · rw [if_pos h]; exact ⟨⟨Int.le_refl _, by omega⟩, fun t t0 t1 => by omega, fun _ => h⟩
    · rw [if_neg h]
      obtain ⟨⟨a1, a2⟩, a3, a4⟩ := fstN_sp p m (k + 1)
      refine ⟨⟨by omega, by omega⟩, fun t t0 t1 => ?_, fun q => a4 (by omega)⟩
      by_cases e : t = k
      · rw [e]; exact Bool.eq_false_iff.mpr h
      · exact a3 t (by omega) t1
theorem insF_at {f : Int → Int} {k x : Int} : insF f k x k = x := by unfold insF; rw [if_neg (by omega), if_pos rfl]
theorem insF_lo {f : Int → Int} {k x t : Int} (h : t < k) : insF f k x t = f t := by unfold insF; rw [if_pos h]
theorem insF_hi {f : Int → Int} {k x t : Int} (h : k ≤ t) : insF f k x (t + 1) = f t := by unfold insF; rw [if_neg (by omega), if_neg (by omega), show t + 1 - 1 = t by omega]
/-- the corners so far: in order, in lowest terms -/
def srtK (s : KS) : Prop := 0 ≤ s.1 ∧ (∀ i, 0 ≤ i → i < s.1 → redP (s.2.1 i) (s.2.2.1 i) (s.2.2.2.1 i) (s.2.2.2.2.1 i)) ∧ ∀ i j, 0 ≤ i → i < j → j < s.1 → cmpP (s.2.1 i) (s.2.2.1 i) (s.2.2.2.1 i) (s.2.2.2.2.1 i) (s.2.1 j) (s.2.2.1 j) (s.2.2.2.1 j) (s.2.2.2.2.1 j) < 0
def inK (s : KS) (x xd y yd : Int) : Prop := ∃ k, 0 ≤ k ∧ k < s.1 ∧ s.2.1 k = x ∧ s.2.2.1 k = xd ∧ s.2.2.2.1 k = y ∧ s.2.2.2.2.1 k = yd
section KC
variable {s : KS} {x xd y yd : Int}
theorem kcA_sp (h0 : 0 ≤ s.1) : (0 ≤ kcA s x xd y yd ∧ kcA s x xd y yd ≤ s.1) ∧ (∀ t, 0 ≤ t → t < kcA s x xd y yd → cmpP (s.2.1 t) (s.2.2.1 t) (s.2.2.2.1 t) (s.2.2.2.2.1 t) x xd y yd < 0) ∧ (kcA s x xd y yd < s.1 → 0 ≤ cmpP (s.2.1 (kcA s x xd y yd)) (s.2.2.1 (kcA s x xd y yd)) (s.2.2.2.1 (kcA s x xd y yd)) (s.2.2.2.2.1 (kcA s x xd y yd)) x xd y yd) := by
  obtain ⟨⟨a1, a2⟩, a3, a4⟩ := fstN_sp (fun t => decide (0 ≤ cmpP (s.2.1 t) (s.2.2.1 t) (s.2.2.2.1 t) (s.2.2.2.2.1 t) x xd y yd)) s.1.toNat 0
  refine ⟨⟨a1, by unfold kcA skS; omega⟩, fun t t0 t1 => ?_, fun q => ?_⟩
  · have := of_decide_eq_false (a3 t t0 t1); omega
  · exact of_decide_eq_true (a4 (by unfold kcA skS at q; omega))
theorem kcS_srt (h : srtK s) (hr : redP x xd y yd) : srtK (kcS s x xd y yd) := by
  obtain ⟨h0, h1, h2⟩ := h
  obtain ⟨⟨a0, a1⟩, a2, a3⟩ := kcA_sp (x := x) (xd := xd) (y := y) (yd := yd) h0
  unfold kcS
  by_cases c : kcE s x xd y yd
  · rw [if_pos c]; exact ⟨h0, h1, h2⟩
  · rw [if_neg c]
    obtain ⟨A, hA⟩ : ∃ A, A = kcA s x xd y yd := ⟨_, rfl⟩
    rw [← hA] at a0 a1 a2 a3
    have c' : A < s.1 → 0 < cmpP (s.2.1 A) (s.2.2.1 A) (s.2.2.2.1 A) (s.2.2.2.2.1 A) x xd y yd := fun q => by
      have := a3 q
      rcases (show cmpP (s.2.1 A) (s.2.2.1 A) (s.2.2.2.1 A) (s.2.2.2.2.1 A) x xd y yd = 0 ∨ 0 < cmpP (s.2.1 A) (s.2.2.1 A) (s.2.2.2.1 A) (s.2.2.2.2.1 A) x xd y yd by omega) with k | k
      · exact absurd ⟨by rw [← hA]; exact q, by rw [← hA]; exact k⟩ c
      · exact k
    have aft : ∀ j, A ≤ j → j < s.1 → cmpP x xd y yd (s.2.1 j) (s.2.2.1 j) (s.2.2.2.1 j) (s.2.2.2.2.1 j) < 0 := fun j j0 j1 => by
      have e := cmp_anti (s.2.1 A) (s.2.2.1 A) (s.2.2.2.1 A) (s.2.2.2.2.1 A) x xd y yd
      have q := c' (by omega)
      by_cases e2 : j = A
      · rw [e2]; omega
      · exact cmp_tr hr.1 (h1 A a0 (by omega)).1 (h1 j (by omega) j1).1 (by omega) (h2 A j a0 (by omega) j1)
    rw [← hA]
    refine ⟨by show 0 ≤ s.1 + 1; omega, fun i i0 i1 => ?_, fun i j i0 ij j1 => ?_⟩
    · have i1 : i < s.1 + 1 := i1
      show redP (insF s.2.1 A x i) (insF s.2.2.1 A xd i) (insF s.2.2.2.1 A y i) (insF s.2.2.2.2.1 A yd i)
      unfold insF
      by_cases e : i < A
      · rw [if_pos e, if_pos e, if_pos e, if_pos e]; exact h1 i i0 (by omega)
      · rw [if_neg e, if_neg e, if_neg e, if_neg e]
        by_cases e2 : i = A
        · rw [if_pos e2, if_pos e2, if_pos e2, if_pos e2]; exact hr
        · rw [if_neg e2, if_neg e2, if_neg e2, if_neg e2]; exact h1 (i - 1) (by omega) (by omega)
    · have j1 : j < s.1 + 1 := j1
      show cmpP (insF s.2.1 A x i) (insF s.2.2.1 A xd i) (insF s.2.2.2.1 A y i) (insF s.2.2.2.2.1 A yd i) (insF s.2.1 A x j) (insF s.2.2.1 A xd j) (insF s.2.2.2.1 A y j) (insF s.2.2.2.2.1 A yd j) < 0
      unfold insF
      by_cases e : i < A
      · rw [if_pos e, if_pos e, if_pos e, if_pos e]
        by_cases e2 : j < A
        · rw [if_pos e2, if_pos e2, if_pos e2, if_pos e2]; exact h2 i j i0 ij (by omega)
        · rw [if_neg e2, if_neg e2, if_neg e2, if_neg e2]
          by_cases e3 : j = A
          · rw [if_pos e3, if_pos e3, if_pos e3, if_pos e3]; exact a2 i i0 e
          · rw [if_neg e3, if_neg e3, if_neg e3, if_neg e3]; exact h2 i (j - 1) i0 (by omega) (by omega)
      · rw [if_neg e, if_neg e, if_neg e, if_neg e]
        have e2 : ¬ j < A := by omega
        have e3 : ¬ j = A := by omega
        rw [if_neg e2, if_neg e2, if_neg e2, if_neg e2, if_neg e3, if_neg e3, if_neg e3, if_neg e3]
        by_cases e4 : i = A
        · rw [if_pos e4, if_pos e4, if_pos e4, if_pos e4]; exact aft (j - 1) (by omega) (by omega)
        · rw [if_neg e4, if_neg e4, if_neg e4, if_neg e4]; exact h2 (i - 1) (j - 1) (by omega) (by omega) (by omega)
theorem kcS_in (h : srtK s) (hr : redP x xd y yd) : inK (kcS s x xd y yd) x xd y yd := by
  obtain ⟨h0, h1, h2⟩ := h
  obtain ⟨⟨a0, a1⟩, a2, a3⟩ := kcA_sp (x := x) (xd := xd) (y := y) (yd := yd) h0
  unfold kcS
  by_cases c : kcE s x xd y yd
  · rw [if_pos c]
    obtain ⟨e1, e2⟩ := cmp_0 c.2
    obtain ⟨p1, p2, p3, p4⟩ := red_eq (h1 _ a0 c.1) hr e1 e2
    exact ⟨_, a0, c.1, p1, p2, p3, p4⟩
  · rw [if_neg c]
    exact ⟨kcA s x xd y yd, a0, by show kcA s x xd y yd < s.1 + 1; omega, insF_at, insF_at, insF_at, insF_at⟩
theorem kcS_old {x' xd' y' yd' : Int} (h0 : 0 ≤ s.1) (h : inK s x' xd' y' yd') : inK (kcS s x xd y yd) x' xd' y' yd' := by
  obtain ⟨⟨a0, a1⟩, -, -⟩ := kcA_sp (x := x) (xd := xd) (y := y) (yd := yd) h0
  obtain ⟨k, k0, k1, e1, e2, e3, e4⟩ := h
  unfold kcS
  by_cases c : kcE s x xd y yd
  · rw [if_pos c]; exact ⟨k, k0, k1, e1, e2, e3, e4⟩
  · rw [if_neg c]
    by_cases e : k < kcA s x xd y yd
    · exact ⟨k, k0, by show k < s.1 + 1; omega, (insF_lo e).trans e1, (insF_lo e).trans e2, (insF_lo e).trans e3, (insF_lo e).trans e4⟩
    · have e5 : kcA s x xd y yd ≤ k := by omega
      exact ⟨k + 1, by omega, by show k + 1 < s.1 + 1; omega, (insF_hi e5).trans e1, (insF_hi e5).trans e2, (insF_hi e5).trans e3, (insF_hi e5).trans e4⟩
theorem kcS_src {P : Int → Int → Int → Int → Prop} (h0 : 0 ≤ s.1) (h : ∀ i, 0 ≤ i → i < s.1 → P (s.2.1 i) (s.2.2.1 i) (s.2.2.2.1 i) (s.2.2.2.2.1 i)) (hp : P x xd y yd) : ∀ i, 0 ≤ i → i < (kcS s x xd y yd).1 → P ((kcS s x xd y yd).2.1 i) ((kcS s x xd y yd).2.2.1 i) ((kcS s x xd y yd).2.2.2.1 i) ((kcS s x xd y yd).2.2.2.2.1 i) := by
  obtain ⟨⟨a0, a1⟩, -, -⟩ := kcA_sp (x := x) (xd := xd) (y := y) (yd := yd) h0
  unfold kcS
  by_cases c : kcE s x xd y yd
  · rw [if_pos c]; exact h
  · rw [if_neg c]
    intro i i0 i1
    have i1 : i < s.1 + 1 := i1
    show P (insF s.2.1 (kcA s x xd y yd) x i) (insF s.2.2.1 (kcA s x xd y yd) xd i) (insF s.2.2.2.1 (kcA s x xd y yd) y i) (insF s.2.2.2.2.1 (kcA s x xd y yd) yd i)
    unfold insF
    by_cases e : i < kcA s x xd y yd
    · rw [if_pos e, if_pos e, if_pos e, if_pos e]; exact h i i0 (by omega)
    · rw [if_neg e, if_neg e, if_neg e, if_neg e]
      by_cases e2 : i = kcA s x xd y yd
      · rw [if_pos e2, if_pos e2, if_pos e2, if_pos e2]; exact hp
      · rw [if_neg e2, if_neg e2, if_neg e2, if_neg e2]; exact h (i - 1) (by omega) (by omega)
end KC
/-- an end of one of the edges -/
def ofE (I J V : Int → Int) (L : List EE) (x xd y yd : Int) : Prop := ∃ e ∈ L, ∃ l, (l = e.2.2.1 ∨ l = e.2.2.2) ∧ l ≠ -1 ∧ x = cpX I J V e.1 e.2.1 l ∧ xd = cpXD I J V e.1 e.2.1 l ∧ y = cpY I J V e.1 e.2.1 l ∧ yd = cpYD I J V e.1 e.2.1 l
section CL
variable {n : Int} {I J V : Int → Int}
/-- what is known of the corners after some edges -/
def goodK (I J V : Int → Int) (L : List EE) (s : KS) : Prop := srtK s ∧ (∀ i, 0 ≤ i → i < s.1 → ofE I J V L (s.2.1 i) (s.2.2.1 i) (s.2.2.2.1 i) (s.2.2.2.2.1 i)) ∧ ∀ x xd y yd, ofE I J V L x xd y yd → inK s x xd y yd
theorem ofE_mono {L L' : List EE} {x xd y yd : Int} (h : ∀ e ∈ L, e ∈ L') (q : ofE I J V L x xd y yd) : ofE I J V L' x xd y yd := by
  obtain ⟨e, e1, r⟩ := q; exact ⟨e, h e e1, r⟩
theorem trE_end {e : EE} (hn : 0 ≤ n) (he : edOK n I J V e) {l : Int} (hl : l = e.2.2.1 ∨ l = e.2.2.2) (h1 : l ≠ -1) : trE I J e.1 e.2.1 l ≠ 0 := by
  obtain ⟨k1, k2⟩ := stF_ok hn he.2.2.2
  rcases hl with q | q
  · rw [← q] at k1; omega
  · rw [← q] at k2; omega
theorem goodK_E {L : List EE} {s : KS} {e : EE} (hn : 0 ≤ n) (he : edOK n I J V e) (h : goodK I J V L s) : goodK I J V (L ++ [e]) (crE I J V s e) := by
  obtain ⟨h1, h2, h3⟩ := h
  have m1 : ∀ x ∈ L, x ∈ L ++ [e] := fun x hx => List.mem_append_left _ hx
  have m2 : e ∈ L ++ [e] := List.mem_append_right _ (List.mem_singleton.mpr rfl)
  obtain ⟨f1, f2, f3⟩ : srtK (crF I J V s e) ∧ (∀ i, 0 ≤ i → i < (crF I J V s e).1 → ofE I J V (L ++ [e]) ((crF I J V s e).2.1 i) ((crF I J V s e).2.2.1 i) ((crF I J V s e).2.2.2.1 i) ((crF I J V s e).2.2.2.2.1 i)) ∧ ((∀ x xd y yd, ofE I J V L x xd y yd → inK (crF I J V s e) x xd y yd) ∧ (e.2.2.1 ≠ -1 → inK (crF I J V s e) (cpX I J V e.1 e.2.1 e.2.2.1) (cpXD I J V e.1 e.2.1 e.2.2.1) (cpY I J V e.1 e.2.1 e.2.2.1) (cpYD I J V e.1 e.2.1 e.2.2.1))) := by
    unfold crF
    by_cases c : e.2.2.1 = -1
    · rw [if_pos c]; exact ⟨h1, fun i i0 i1 => ofE_mono m1 (h2 i i0 i1), h3, fun q => absurd c q⟩
    · rw [if_neg c]
      have hr := cp_red (V := V) (trE_end hn he (Or.inl rfl) c)
      exact ⟨kcS_srt h1 hr, kcS_src h1.1 (fun i i0 i1 => ofE_mono m1 (h2 i i0 i1)) ⟨e, m2, _, Or.inl rfl, c, rfl, rfl, rfl, rfl⟩, fun x xd y yd q => kcS_old h1.1 (h3 x xd y yd q), fun _ => kcS_in h1 hr⟩
  rw [crE_eq]
  have splitE : ∀ x xd y yd, ofE I J V (L ++ [e]) x xd y yd → ofE I J V L x xd y yd ∨ (e.2.2.1 ≠ -1 ∧ x = cpX I J V e.1 e.2.1 e.2.2.1 ∧ xd = cpXD I J V e.1 e.2.1 e.2.2.1 ∧ y = cpY I J V e.1 e.2.1 e.2.2.1 ∧ yd = cpYD I J V e.1 e.2.1 e.2.2.1) ∨ (e.2.2.2 ≠ -1 ∧ x = cpX I J V e.1 e.2.1 e.2.2.2 ∧ xd = cpXD I J V e.1 e.2.1 e.2.2.2 ∧ y = cpY I J V e.1 e.2.1 e.2.2.2 ∧ yd = cpYD I J V e.1 e.2.1 e.2.2.2) := by
    rintro x xd y yd ⟨e', he', l, hl, hl1, r⟩
    rcases List.mem_append.mp he' with q | q
    · exact Or.inl ⟨e', q, l, hl, hl1, r⟩
    · have e0 := List.mem_singleton.mp q
      rw [e0] at hl r
      rcases hl with k | k
      · rw [k] at hl1 r; exact Or.inr (Or.inl ⟨hl1, r⟩)
      · rw [k] at hl1 r; exact Or.inr (Or.inr ⟨hl1, r⟩)
  by_cases c : e.2.2.2 = -1
  · rw [if_pos c]
    refine ⟨f1, f2, fun x xd y yd q => ?_⟩
    rcases splitE x xd y yd q with k | ⟨k, r1, r2, r3, r4⟩ | ⟨k, -⟩
    · exact f3.1 x xd y yd k
    · rw [r1, r2, r3, r4]; exact f3.2 k
    · exact absurd c k
  · rw [if_neg c]
    have hr := cp_red (V := V) (trE_end hn he (Or.inr rfl) c)
    refine ⟨kcS_srt f1 hr, kcS_src f1.1 f2 ⟨e, m2, _, Or.inr rfl, c, rfl, rfl, rfl, rfl⟩, fun x xd y yd q => ?_⟩
    rcases splitE x xd y yd q with k | ⟨k, r1, r2, r3, r4⟩ | ⟨k, r1, r2, r3, r4⟩
    · exact kcS_old f1.1 (f3.1 x xd y yd k)
    · rw [r1, r2, r3, r4]; exact kcS_old f1.1 (f3.2 k)
    · rw [r1, r2, r3, r4]; exact kcS_in f1 hr
theorem goodK_F (hn : 0 ≤ n) : ∀ (L2 L : List EE) (s : KS), (∀ e ∈ L2, edOK n I J V e) → goodK I J V L s → goodK I J V (L ++ L2) (L2.foldl (crE I J V) s)
  | [], L, s, _, h => by rw [List.append_nil]; exact h
  | e :: r, L, s, ho, h => by
    have h2 := goodK_F hn r (L ++ [e]) _ (fun x hx => ho x (List.mem_cons_of_mem _ hx)) (goodK_E hn (ho e (List.mem_cons_self ..)) h)
    rw [List.append_assoc] at h2
    exact h2
theorem crL_good (hn : 0 ≤ n) : goodK I J V (edL n I J V) (crL n I J V) := by
  have h := goodK_F (n := n) (I := I) (J := J) (V := V) hn (edL n I J V) [] k00 (edL_ok hn) ⟨⟨Int.le_refl _, fun i i0 i1 => absurd i1 (by show ¬ i < 0; omega), fun i j i0 ij j1 => absurd j1 (by show ¬ j < 0; omega)⟩, fun i i0 i1 => absurd i1 (by show ¬ i < 0; omega), fun x xd y yd ⟨e, he, _⟩ => absurd he (List.not_mem_nil)⟩
  rw [List.nil_append] at h
  exact h
end CL
