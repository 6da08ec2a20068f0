/-! THE REFERENCE: the edges, as a list: both terms, and those that bound the stretch -/
abbrev EE : Type := Int × Int × Int × Int
def edE (n : Int) (I J V : Int → Int) (L : List EE) (a b : Int) : List EE := match stF n I J V a b with | none => L | some (l, g) => L ++ [(a, b, l, g)]
def edJ (n : Int) (I J V : Int → Int) (a : Int) : Nat → Int → List EE → List EE
  | 0, _, L => L
  | m + 1, b, L => edJ n I J V a m (b + 1) (edE n I J V L a b)
def edI (n : Int) (I J V : Int → Int) : Nat → Int → List EE → List EE
  | 0, _, L => L
  | m + 1, a, L => edI n I J V m (a + 1) (edJ n I J V a (n - (a + 1)).toNat (a + 1) L)
def edL (n : Int) (I J V : Int → Int) : List EE := edI n I J V n.toNat 0 []
theorem edJ_s {n a b : Int} {I J V : Int → Int} {L : List EE} (h : b < n) : edJ n I J V a (n - b).toNat b L = edJ n I J V a (n - (b + 1)).toNat (b + 1) (edE n I J V L a b) := by rw [show (n - b).toNat = (n - (b + 1)).toNat + 1 by omega]; rfl
theorem edJ_e {n a b : Int} {I J V : Int → Int} {L : List EE} (h : n ≤ b) : edJ n I J V a (n - b).toNat b L = L := by rw [show (n - b).toNat = 0 by omega]; rfl
theorem edI_s {n a : Int} {I J V : Int → Int} {L : List EE} (h : a < n) : edI n I J V (n - a).toNat a L = edI n I J V (n - (a + 1)).toNat (a + 1) (edJ n I J V a (n - (a + 1)).toNat (a + 1) L) := by
  conv => lhs; rw [show (n - a).toNat = (n - (a + 1)).toNat + 1 by omega]
  rfl
theorem edI_e {n a : Int} {I J V : Int → Int} {L : List EE} (h : n ≤ a) : edI n I J V (n - a).toNat a L = L := by rw [show (n - a).toNat = 0 by omega]; rfl
theorem edE_len {n a b : Int} {I J V : Int → Int} {L : List EE} : L.length ≤ (edE n I J V L a b).length := by unfold edE; split; exact Nat.le_refl _; rw [List.length_append]; omega
theorem edJ_len {n a : Int} {I J V : Int → Int} : ∀ (m : Nat) (b : Int) (L : List EE), L.length ≤ (edJ n I J V a m b L).length
  | 0, _, _ => Nat.le_refl _
  | m + 1, b, L => Nat.le_trans edE_len (edJ_len m (b + 1) _)
theorem edI_len {n : Int} {I J V : Int → Int} : ∀ (m : Nat) (a : Int) (L : List EE), L.length ≤ (edI n I J V m a L).length
  | 0, _, _ => Nat.le_refl _
  | m + 1, a, L => Nat.le_trans (edJ_len _ _ _) (edI_len m (a + 1) _)
def dirX (I J : Int → Int) (a b : Int) : Int := (-(J b - J a)).tdiv (gc (I b - I a) (J b - J a))
def dirY (I J : Int → Int) (a b : Int) : Int := (I b - I a).tdiv (gc (I b - I a) (J b - J a))
def n1 (l : Int) : Int := if l = -1 then 0 else 1
theorem n1_i (l : Int) : n1 l = 0 ∨ n1 l = 1 := by unfold n1; split; exact Or.inl rfl; exact Or.inr rfl
/-- an edge as the reference's rows have it -/
def EdH (z z2 : ZM) (f : Int) (I J V : Int → Int) (k : Int) (e : EE) : Prop :=
  (z 196 k = 40 * f + e.1 ∧ z 197 k = 40 * f + e.2.1 ∧ z 198 k = dirX I J e.1 e.2.1 ∧ z 199 k = dirY I J e.1 e.2.1 ∧ z 200 k = gc (I e.2.1 - I e.1) (J e.2.1 - J e.1) ∧ z 201 k = n1 e.2.2.1 ∧ z 202 k = n1 e.2.2.2) ∧
  (e.2.2.1 ≠ -1 → ptH z2 203 (8 * k) (cpX I J V e.1 e.2.1 e.2.2.1) (cpXD I J V e.1 e.2.1 e.2.2.1) (cpY I J V e.1 e.2.1 e.2.2.1) (cpYD I J V e.1 e.2.1 e.2.2.1)) ∧
  (e.2.2.2 ≠ -1 → ptH z2 203 (8 * k + 4) (cpX I J V e.1 e.2.1 e.2.2.2) (cpXD I J V e.1 e.2.1 e.2.2.2) (cpY I J V e.1 e.2.1 e.2.2.2) (cpYD I J V e.1 e.2.1 e.2.2.2))
def EH (z z2 : ZM) (f : Int) (I J V : Int → Int) (L : List EE) : Prop := z 184 18 = (L.length : Int) ∧ ∀ (k : Nat) (e : EE), L[k]? = some e → EdH z z2 f I J V (k : Int) e
/-- what the reference changes as it finds the edges -/
def frE (z' z : ZM) : Prop := (∀ c, c ≠ 184 → (c < 196 ∨ 202 < c) → z' c = z c) ∧ ∀ k, k ≠ 18 → k ≠ 27 → k ≠ 28 → z' 184 k = z 184 k
def frEL (z' z : ZM) : Prop := (∀ c, c ≠ 184 → c ≠ 203 → z' c = z c) ∧ ∀ k, (k < 29 ∨ 32 < k) → z' 184 k = z 184 k
theorem frE_r (z : ZM) : frE z z := ⟨fun _ _ _ => rfl, fun _ _ _ _ => rfl⟩
theorem frEL_r (z : ZM) : frEL z z := ⟨fun _ _ _ => rfl, fun _ _ => rfl⟩
theorem frE_b {z z2 z3 : ZM} (h1 : frE z2 z) (h2 : frB z3 z2) : frE z3 z := ⟨fun c a b => (h2.1 c a).trans (h1.1 c a b), fun k a b c => (h2.2 k b c).trans (h1.2 k a b c)⟩
theorem frEL_b {z z2 z3 : ZM} (h1 : frEL z2 z) (h2 : frBL z3 z2) : frEL z3 z := ⟨fun c a b => (h2.1 c a).trans (h1.1 c a b), fun k a => (h2.2 k a).trans (h1.2 k a)⟩
theorem frEL_p {z z2 : ZM} {k x xd y yd : Int} (h1 : frEL z2 z) : frEL (ptL z2 k x xd y yd) z := ⟨fun c a b => by rw [ptL_row b]; exact h1.1 c a b, fun k a => by rw [ptL_row (by decide)]; exact h1.2 k a⟩
/-- one more edge's numbers -/
def edZ (z : ZM) (k s t dx dy g u v : Int) : ZM := zput (zput (zput (zput (zput (zput (zput z 196 k s) 197 k t) 198 k dx) 199 k dy) 200 k g) 201 k u) 202 k v
theorem edZ_row {z : ZM} {k s t dx dy g u v : Int} {c : Nat} (h : c < 196 ∨ 202 < c) : edZ z k s t dx dy g u v c = z c := by unfold edZ; rw [zput_row (by omega), zput_row (by omega), zput_row (by omega), zput_row (by omega), zput_row (by omega), zput_row (by omega), zput_row (by omega)]
theorem zp_off2 {z : ZM} {c d : Nat} {k j x : Int} (h : j ≠ k) : zput z d k x c j = z c j := by unfold zput; rw [if_neg (fun q => h q.2)]
theorem edZ_off {z : ZM} {k s t dx dy g u v : Int} {c : Nat} {j : Int} (h : j ≠ k) : edZ z k s t dx dy g u v c j = z c j := by unfold edZ; rw [zp_off2 h, zp_off2 h, zp_off2 h, zp_off2 h, zp_off2 h, zp_off2 h, zp_off2 h]
theorem edZ_at {z : ZM} {k s t dx dy g u v : Int} : edZ z k s t dx dy g u v 196 k = s ∧ edZ z k s t dx dy g u v 197 k = t ∧ edZ z k s t dx dy g u v 198 k = dx ∧ edZ z k s t dx dy g u v 199 k = dy ∧ edZ z k s t dx dy g u v 200 k = g ∧ edZ z k s t dx dy g u v 201 k = u ∧ edZ z k s t dx dy g u v 202 k = v := by unfold edZ zput; simp (disch := omega) only [if_pos, if_neg, ↓reduceIte, true_and, and_true, true_or, or_true, and_self]
theorem frE_z {z z2 : ZM} {k s t dx dy g u v j : Int} (h : frE z2 z) : frE (zput (edZ z2 k s t dx dy g u v) 184 18 j) z := ⟨fun c a b => by rw [zput_row a, edZ_row b]; exact h.1 c a b, fun i a b c => by rw [zput_off a, edZ_row (by decide)]; exact h.2 i a b c⟩
theorem EH_app {z z2 z3 : ZM} {f : Int} {I J V : Int → Int} {L : List EE} {e : EE} {dx dy g u v : Int} (h : EH z z2 f I J V L) (hdx : dx = dirX I J e.1 e.2.1) (hdy : dy = dirY I J e.1 e.2.1) (hg : g = gc (I e.2.1 - I e.1) (J e.2.1 - J e.1)) (hu : u = n1 e.2.2.1) (hv : v = n1 e.2.2.2)
    (hpt : ∀ j, j < 8 * (L.length : Int) → z3 203 j = z2 203 j) (h1 : e.2.2.1 ≠ -1 → ptH z3 203 (8 * (L.length : Int)) (cpX I J V e.1 e.2.1 e.2.2.1) (cpXD I J V e.1 e.2.1 e.2.2.1) (cpY I J V e.1 e.2.1 e.2.2.1) (cpYD I J V e.1 e.2.1 e.2.2.1)) (h2 : e.2.2.2 ≠ -1 → ptH z3 203 (8 * (L.length : Int) + 4) (cpX I J V e.1 e.2.1 e.2.2.2) (cpXD I J V e.1 e.2.1 e.2.2.2) (cpY I J V e.1 e.2.1 e.2.2.2) (cpYD I J V e.1 e.2.1 e.2.2.2)) :
    EH (zput (edZ z (L.length : Int) (40 * f + e.1) (40 * f + e.2.1) dx dy g u v) 184 18 ((L.length : Int) + 1)) z3 f I J V (L ++ [e]) := by
  refine ⟨by rw [zput_at]; simp, fun k e' hk => ?_⟩
  rcases Nat.lt_trichotomy k L.length with q | q | q
  · rw [List.getElem?_append_left q] at hk
    obtain ⟨a, b, c⟩ := h.2 k e' hk
    refine ⟨?_, fun q2 => ?_, fun q2 => ?_⟩
    · have : ∀ cc : Nat, cc ≠ 184 → zput (edZ z (L.length : Int) (40 * f + e.1) (40 * f + e.2.1) dx dy g u v) 184 18 ((L.length : Int) + 1) cc k = z cc k := fun cc hcc => by rw [zput_row hcc, edZ_off (by omega)]
      rw [this 196 (by decide), this 197 (by decide), this 198 (by decide), this 199 (by decide), this 200 (by decide), this 201 (by decide), this 202 (by decide)]; exact a
    · unfold ptH; rw [hpt _ (by omega), hpt _ (by omega), hpt _ (by omega), hpt _ (by omega)]; exact b q2
    · unfold ptH; rw [hpt _ (by omega), hpt _ (by omega), hpt _ (by omega), hpt _ (by omega)]; exact c q2
  · subst q
    rw [List.getElem?_append_right (Nat.le_refl _), Nat.sub_self] at hk
    have hk : some e = some e' := hk
    cases hk
    refine ⟨?_, h1, h2⟩
    have : ∀ cc : Nat, cc ≠ 184 → zput (edZ z (L.length : Int) (40 * f + e.1) (40 * f + e.2.1) dx dy g u v) 184 18 ((L.length : Int) + 1) cc = edZ z (L.length : Int) (40 * f + e.1) (40 * f + e.2.1) dx dy g u v cc := fun cc hcc => zput_row hcc
    rw [this 196 (by decide), this 197 (by decide), this 198 (by decide), this 199 (by decide), this 200 (by decide), this 201 (by decide), this 202 (by decide)]
    obtain ⟨p1, p2, p3, p4, p5, p6, p7⟩ := edZ_at (z := z) (k := (L.length : Int)) (s := 40 * f + e.1) (t := 40 * f + e.2.1) (dx := dx) (dy := dy) (g := g) (u := u) (v := v)
    exact ⟨p1, p2, p3.trans hdx, p4.trans hdy, p5.trans hg, p6.trans hu, p7.trans hv⟩
  · rw [List.getElem?_eq_none (by rw [List.length_append]; simp; omega)] at hk; cases hk
theorem gcd_gc2 {a b : Int} (h : a ≠ 0 ∨ b ≠ 0) : ((Nat.gcd a.natAbs b.natAbs : Nat) : Int) = gc a b ∧ gc a b ∣ a ∧ gc a b ∣ b := by
  unfold gc
  have h0 : Nat.gcd a.natAbs b.natAbs ≠ 0 := fun q => by
    have := Nat.gcd_eq_zero_iff.mp q
    omega
  rw [if_neg h0]
  exact ⟨rfl, Int.natAbs_dvd_natAbs.mp (by simpa using Nat.gcd_dvd_left _ _), Int.natAbs_dvd_natAbs.mp (by simpa using Nat.gcd_dvd_right _ _)⟩
theorem dv_b {g d q B : Int} (hg : 1 ≤ g) (h : g * d = q) (hq : -B ≤ q ∧ q ≤ B) (hB : 0 ≤ B) : -B ≤ d ∧ d ≤ B := by
  rcases Int.le_total 0 d with k | k
  · have := Int.mul_le_mul_of_nonneg_right hg k; omega
  · have := Int.mul_le_mul_of_nonneg_right hg (show 0 ≤ -d by omega)
    rw [Int.one_mul, Int.mul_neg] at this; omega
theorem dir_eq {I J : Int → Int} {a b : Int} (hab : I b ≠ I a ∨ J b ≠ J a) : 1 ≤ gc (I b - I a) (J b - J a) ∧ gc (I b - I a) (J b - J a) * dirX I J a b = -(J b - J a) ∧ gc (I b - I a) (J b - J a) * dirY I J a b = I b - I a := by
  obtain ⟨-, h1, h2⟩ := gcd_gc2 (a := I b - I a) (b := J b - J a) (by omega)
  exact ⟨gc_pos _ _, Int.mul_tdiv_cancel' (Int.dvd_neg.mpr h2), Int.mul_tdiv_cancel' h1⟩
theorem dir_b {I J : Int → Int} {a b : Int} (hab : I b ≠ I a ∨ J b ≠ J a) (hi : -8 ≤ I b - I a ∧ I b - I a ≤ 8) (hj : -8 ≤ J b - J a ∧ J b - J a ≤ 8) : (-8 ≤ dirX I J a b ∧ dirX I J a b ≤ 8) ∧ (-8 ≤ dirY I J a b ∧ dirY I J a b ≤ 8) := by
  obtain ⟨h0, h1, h2⟩ := dir_eq hab
  exact ⟨dv_b h0 h1 (by omega) (by decide), dv_b h0 h2 hi (by decide)⟩
section Rows8
variable {X : PX} {d : Nat} {C : List PI} {pc : Nat} {ls : List (Option PV)} {st : List PV} {S : SS} {zI zL : ZM} {mc ms : Nat} {Q : PQ} {nx a b : Nat} {c : Int}
theorem r_cV8 {t o : Nat} {v1 v2 v3 v4 v5 v6 v7 : PV} (h : C[pc]? = some (.invokevirtual t, nx, a, 8, c)) (hr : ob S o (RC a)) (hp : pcats st ≤ 8) (h1 : MC a = 0) (h2 : MS a = 0) (k : wpM X d a [pR o, v1, v2, v3, v4, v5, v6, v7] S zI zL (fun r S' zI' zL' => Run X d C nx ls (r.toList ++ st) S' zI' zL' mc ms Q)) : Run X d C pc ls (v7 :: v6 :: v5 :: v4 :: v3 :: v2 :: v1 :: pR o :: st) S zI zL mc ms Q := r_callV (as := [pR o, v1, v2, v3, v4, v5, v6, v7]) (o := o) h rfl rfl rfl hr hp (by omega) (by omega) (by rw [h1, h2]; exact k)
end Rows8
set_option maxHeartbeats 4000000 in
theorem v_edW {X : PX} {d : Nat} {S : SS} {zI zL : ZM} {Q : PQ} (hS : Sk S) {f s t p q g k dx dy x0 x1 x2 x3 y0 y1 y2 y3 : Int} (e18 : zI 184 18 = k) (hk : 0 ≤ k ∧ k < 780) (ip : inI p) (iq : inI (-q)) (ig : inI g) (g0 : g ≠ 0) (hdx : dx = (-q).tdiv g) (hdy : dy = p.tdiv g) (i27 : zI 184 27 = 0 ∨ zI 184 27 = 1) (i28 : zI 184 28 = 0 ∨ zI 184 28 = 1)
    (hp1 : zI 184 27 ≠ 0 → ∀ Q' : PQ, Q' none S (edZ zI k s t dx dy g (zI 184 27) (zI 184 28)) (ptL zL (8 * k) x0 x1 x2 x3) → wpM X (d + 3) fM_pointOf [pR 184, pI (8 * k), pI s, pI t, pI dx, pI dy, pL (zL 184 29), pL (zL 184 30)] S (edZ zI k s t dx dy g (zI 184 27) (zI 184 28)) zL Q')
    (hp2 : zI 184 28 ≠ 0 → ∀ (zz : ZM) (Q' : PQ), (∀ c, c ≠ 203 → zz c = zL c) → Q' none S (edZ zI k s t dx dy g (zI 184 27) (zI 184 28)) (ptL zz (8 * k + 4) y0 y1 y2 y3) → wpM X (d + 3) fM_pointOf [pR 184, pI (8 * k + 4), pI s, pI t, pI dx, pI dy, pL (zz 184 31), pL (zz 184 32)] S (edZ zI k s t dx dy g (zI 184 27) (zI 184 28)) zz Q')
    (hQ : ∀ z2, (∀ c, c ≠ 203 → z2 c = zL c) → (∀ j, j < 8 * k → z2 203 j = zL 203 j) → (zI 184 27 ≠ 0 → ptH z2 203 (8 * k) x0 x1 x2 x3) → (zI 184 28 ≠ 0 → ptH z2 203 (8 * k + 4) y0 y1 y2 y3) → Run X (d + 3) c_M_findEdges 180 [some (pR 184), some (pI f), some (pI s), some (pI t), some (pI p), some (pI q), some (pI g)] [] S (zput (edZ zI k s t dx dy g (zI 184 27) (zI 184 28)) 184 18 (k + 1)) z2 0 0 Q) :
    Run X (d + 3) c_M_findEdges 73 [some (pR 184), some (pI f), some (pI s), some (pI t), some (pI p), some (pI q), some (pI g)] [] S zI zL 0 0 Q := by
  have ez : ∀ c, (c < 196 ∨ 202 < c) → (edZ zI k s t dx dy g (zI 184 27) (zI 184 28)) c = zI c := fun c hc => edZ_row hc
  have ea := edZ_at (z := zI) (k := k) (s := s) (t := t) (dx := dx) (dy := dy) (g := g) (u := zI 184 27) (v := zI 184 28)
  have end1 : ∀ z2 : ZM, (∀ c, c ≠ 203 → z2 c = zL c) → (∀ j, j < 8 * k → z2 203 j = zL 203 j) → (zI 184 27 ≠ 0 → ptH z2 203 (8 * k) x0 x1 x2 x3) → (zI 184 28 ≠ 0 → ptH z2 203 (8 * k + 4) y0 y1 y2 y3) → Run X (d + 3) c_M_findEdges 174 [some (pR 184), some (pI f), some (pI s), some (pI t), some (pI p), some (pI q), some (pI g)] [] S (edZ zI k s t dx dy g (zI 184 27) (zI 184 28)) z2 0 0 Q := by
    intro z2 a1 a2 a3 a4
    refine r_aload_n rfl rfl ?_
    refine r_dupR rfl ?_
    refine r_getI rfl (so184 hS) ?_
    rw [ez 184 (by decide), e18]
    refine r_iconst rfl ?_
    refine r_iadd rfl ?_
    refine r_putI rfl (so184 hS) ?_
    exact hQ z2 a1 a2 a3 a4
  have mid : ∀ z2 : ZM, (∀ c, c ≠ 203 → z2 c = zL c) → (∀ j, j < 8 * k → z2 203 j = zL 203 j) → (zI 184 27 ≠ 0 → ptH z2 203 (8 * k) x0 x1 x2 x3) → Run X (d + 3) c_M_findEdges 147 [some (pR 184), some (pI f), some (pI s), some (pI t), some (pI p), some (pI q), some (pI g)] [] S (edZ zI k s t dx dy g (zI 184 27) (zI 184 28)) z2 0 0 Q := by
    intro z2 a1 a2 a3
    refine r_aload_n rfl rfl ?_
    refine r_getZ rfl (so184 hS) ?_
    rw [ez 184 (by decide)]
    refine r_if_eq rfl (by unfold inI; omega) (fun h149 => ?_) (fun h149 => ?_)
    · skip
      exact end1 z2 a1 a2 a3 (fun q => absurd h149 q)
    · skip
      refine r_aload_n rfl rfl ?_
      refine r_bipush rfl ?_
      refine r_aload_n rfl rfl ?_
      refine r_getI rfl (so184 hS) ?_
      rw [ez 184 (by decide), e18]
      refine r_imul rfl ?_
      refine r_iconst rfl ?_
      refine r_iadd rfl ?_
      refine r_iload_n rfl rfl ?_
      refine r_iload_n rfl rfl ?_
      refine r_aload_n rfl rfl ?_
      refine r_getR rfl (so184 hS) (sr184_21 hS) ?_
      refine r_aload_n rfl rfl ?_
      refine r_getI rfl (so184 hS) ?_
      rw [ez 184 (by decide), e18]
      refine r_iald rfl (sw198 hS) (by omega) (by omega) ?_
      rw [ea.2.2.1]
      refine r_aload_n rfl rfl ?_
      refine r_getR rfl (so184 hS) (sr184_22 hS) ?_
      refine r_aload_n rfl rfl ?_
      refine r_getI rfl (so184 hS) ?_
      rw [ez 184 (by decide), e18]
      refine r_iald rfl (sw199 hS) (by omega) (by omega) ?_
      rw [ea.2.2.2.1]
      refine r_aload_n rfl rfl ?_
      refine r_getL rfl (so184 hS) ?_
      refine r_aload_n rfl rfl ?_
      refine r_getL rfl (so184 hS) ?_
      refine r_cV8 rfl (so184 hS) (Nat.le_of_ble_eq_true rfl) rfl rfl (hp2 h149 z2 _ a1 ?_)
      refine end1 _ (fun c hc => by rw [ptL_row hc]; exact a1 c hc) (fun j hj => by rw [ptL_off (by omega)]; exact a2 j hj) (fun q => ?_) (fun _ => ptL_H)
      have h3 := a3 q
      unfold ptH at h3 ⊢
      rw [ptL_off (by omega), ptL_off (by omega), ptL_off (by omega), ptL_off (by omega)]; exact h3
  have fst : Run X (d + 3) c_M_findEdges 122 [some (pR 184), some (pI f), some (pI s), some (pI t), some (pI p), some (pI q), some (pI g)] [] S (edZ zI k s t dx dy g (zI 184 27) (zI 184 28)) zL 0 0 Q := by
    refine r_aload_n rfl rfl ?_
    refine r_getZ rfl (so184 hS) ?_
    rw [ez 184 (by decide)]
    refine r_if_eq rfl (by unfold inI; omega) (fun h124 => ?_) (fun h124 => ?_)
    · skip
      exact mid zL (fun _ _ => rfl) (fun _ _ => rfl) (fun q => absurd h124 q)
    · skip
      refine r_aload_n rfl rfl ?_
      refine r_bipush rfl ?_
      refine r_aload_n rfl rfl ?_
      refine r_getI rfl (so184 hS) ?_
      rw [ez 184 (by decide), e18]
      refine r_imul rfl ?_
      refine r_iload_n rfl rfl ?_
      refine r_iload_n rfl rfl ?_
      refine r_aload_n rfl rfl ?_
      refine r_getR rfl (so184 hS) (sr184_21 hS) ?_
      refine r_aload_n rfl rfl ?_
      refine r_getI rfl (so184 hS) ?_
      rw [ez 184 (by decide), e18]
      refine r_iald rfl (sw198 hS) (by omega) (by omega) ?_
      rw [ea.2.2.1]
      refine r_aload_n rfl rfl ?_
      refine r_getR rfl (so184 hS) (sr184_22 hS) ?_
      refine r_aload_n rfl rfl ?_
      refine r_getI rfl (so184 hS) ?_
      rw [ez 184 (by decide), e18]
      refine r_iald rfl (sw199 hS) (by omega) (by omega) ?_
      rw [ea.2.2.2.1]
      refine r_aload_n rfl rfl ?_
      refine r_getL rfl (so184 hS) ?_
      refine r_aload_n rfl rfl ?_
      refine r_getL rfl (so184 hS) ?_
      refine r_cV8 rfl (so184 hS) (Nat.le_of_ble_eq_true rfl) rfl rfl (hp1 h124 _ ?_)
      exact mid _ (fun c hc => ptL_row hc) (fun j hj => ptL_off (by omega)) (fun _ => ptL_H)
  refine r_aload_n rfl rfl ?_
  refine r_getR rfl (so184 hS) (sr184_19 hS) ?_
  refine r_aload_n rfl rfl ?_
  refine r_getI rfl (so184 hS) ?_
  rw [e18]
  refine r_iload_n rfl rfl ?_
  refine r_iast rfl (sw196 hS) (by omega) (by omega) ?_
  refine r_aload_n rfl rfl ?_
  refine r_getR rfl (so184 hS) (sr184_20 hS) ?_
  refine r_aload_n rfl rfl ?_
  refine r_getI rfl (so184 hS) ?_
  rw [zput_row (show (184 : Nat) ≠ 196 by decide), e18]
  refine r_iload_n rfl rfl ?_
  refine r_iast rfl (sw197 hS) (by omega) (by omega) ?_
  refine r_aload_n rfl rfl ?_
  refine r_getR rfl (so184 hS) (sr184_21 hS) ?_
  refine r_aload_n rfl rfl ?_
  refine r_getI rfl (so184 hS) ?_
  rw [zput_row (show (184 : Nat) ≠ 197 by decide), zput_row (show (184 : Nat) ≠ 196 by decide), e18]
  refine r_iload rfl rfl ?_
  refine r_ineg rfl ?_
  refine r_iload rfl rfl ?_
  refine r_idiv rfl iq ig g0 ?_
  rw [← hdx]
  refine r_iast rfl (sw198 hS) (by omega) (by omega) ?_
  refine r_aload_n rfl rfl ?_
  refine r_getR rfl (so184 hS) (sr184_22 hS) ?_
  refine r_aload_n rfl rfl ?_
  refine r_getI rfl (so184 hS) ?_
  rw [zput_row (show (184 : Nat) ≠ 198 by decide), zput_row (show (184 : Nat) ≠ 197 by decide), zput_row (show (184 : Nat) ≠ 196 by decide), e18]
  refine r_iload rfl rfl ?_
  refine r_iload rfl rfl ?_
  refine r_idiv rfl ip ig g0 ?_
  rw [← hdy]
  refine r_iast rfl (sw199 hS) (by omega) (by omega) ?_
  refine r_aload_n rfl rfl ?_
  refine r_getR rfl (so184 hS) (sr184_23 hS) ?_
  refine r_aload_n rfl rfl ?_
  refine r_getI rfl (so184 hS) ?_
  rw [zput_row (show (184 : Nat) ≠ 199 by decide), zput_row (show (184 : Nat) ≠ 198 by decide), zput_row (show (184 : Nat) ≠ 197 by decide), zput_row (show (184 : Nat) ≠ 196 by decide), e18]
  refine r_iload rfl rfl ?_
  refine r_iast rfl (sw200 hS) (by omega) (by omega) ?_
  refine r_aload_n rfl rfl ?_
  refine r_getR rfl (so184 hS) (sr184_24 hS) ?_
  refine r_aload_n rfl rfl ?_
  refine r_getI rfl (so184 hS) ?_
  rw [zput_row (show (184 : Nat) ≠ 200 by decide), zput_row (show (184 : Nat) ≠ 199 by decide), zput_row (show (184 : Nat) ≠ 198 by decide), zput_row (show (184 : Nat) ≠ 197 by decide), zput_row (show (184 : Nat) ≠ 196 by decide), e18]
  refine r_aload_n rfl rfl ?_
  refine r_getZ rfl (so184 hS) ?_
  rw [zput_row (show (184 : Nat) ≠ 200 by decide), zput_row (show (184 : Nat) ≠ 199 by decide), zput_row (show (184 : Nat) ≠ 198 by decide), zput_row (show (184 : Nat) ≠ 197 by decide), zput_row (show (184 : Nat) ≠ 196 by decide)]
  refine r_bast rfl (sw201 hS) (by omega) (by omega) (by first | exact Or.inl rfl | exact Or.inr rfl | assumption) ?_
  refine r_aload_n rfl rfl ?_
  refine r_getR rfl (so184 hS) (sr184_25 hS) ?_
  refine r_aload_n rfl rfl ?_
  refine r_getI rfl (so184 hS) ?_
  rw [zput_row (show (184 : Nat) ≠ 201 by decide), zput_row (show (184 : Nat) ≠ 200 by decide), zput_row (show (184 : Nat) ≠ 199 by decide), zput_row (show (184 : Nat) ≠ 198 by decide), zput_row (show (184 : Nat) ≠ 197 by decide), zput_row (show (184 : Nat) ≠ 196 by decide), e18]
  refine r_aload_n rfl rfl ?_
  refine r_getZ rfl (so184 hS) ?_
  rw [zput_row (show (184 : Nat) ≠ 201 by decide), zput_row (show (184 : Nat) ≠ 200 by decide), zput_row (show (184 : Nat) ≠ 199 by decide), zput_row (show (184 : Nat) ≠ 198 by decide), zput_row (show (184 : Nat) ≠ 197 by decide), zput_row (show (184 : Nat) ≠ 196 by decide)]
  refine r_bast rfl (sw202 hS) (by omega) (by omega) (by first | exact Or.inl rfl | exact Or.inr rfl | assumption) ?_
  exact fst
set_option maxHeartbeats 4000000 in
theorem x_findEdges {X : PX} {d : Nat} {S : SS} {zI zL : ZM} {Q : PQ} (hS : Sk S) {f n : Int} {I J V : Int → Int} (hf : 0 ≤ f ∧ f ≤ 10) (hT : FM zI f n I J V) (hR : FR n I J V) (hS2 : FS n I J) (hcap : (edL n I J V).length ≤ 780) (hQ : ∀ z z2, frE z zI → frEL z2 zL → EH z z2 f I J V (edL n I J V) → Q none S z z2) : wpM X (d + 4) fM_findEdges [pR 184, pI f] S zI zL Q := by
  have hT0 := hT
  have hR0 := hR
  obtain ⟨e4, hel⟩ := hT
  obtain ⟨hn0, hn40, hrg⟩ := hR
  have i0 : ∀ k, 0 ≤ k → k < n → 0 ≤ 40 * f + k ∧ 40 * f + k < 440 := fun k k0 k1 => by omega
  have outer : ∀ a : Int, a ≤ n → 0 ≤ a → ∀ (z z2 : ZM) (L : List EE) (s : Int) (y3 y4 y5 y6 : Option PV), s = 40 * f + a → frE z zI → frEL z2 zL → EH z z2 f I J V L → edI n I J V (n - a).toNat a L = edL n I J V → Run X (d + 3) c_M_findEdges 7 [some (pR 184), some (pI f), some (pI s), y3, y4, y5, y6] [] S z z2 0 0 Q := by
    refine loop_up _ n (fun a hka ih a0 z z2 L s y3 y4 y5 y6 hs hz hz2 hE hst => ?_)
    have e4z : z 186 f = n := by rw [hz.1 186 (by decide) (by decide)]; exact e4
    have inner : a < n → ∀ b : Int, b ≤ n → a + 1 ≤ b → ∀ (z z2 : ZM) (L : List EE) (t : Int) (y4 y5 y6 : Option PV), t = 40 * f + b → frE z zI → frEL z2 zL → EH z z2 f I J V L → edI n I J V (n - (a + 1)).toNat (a + 1) (edJ n I J V a (n - b).toNat b L) = edL n I J V → Run X (d + 3) c_M_findEdges 21 [some (pR 184), some (pI f), some (pI s), some (pI t), y4, y5, y6] [] S z z2 0 0 Q := by
      intro han
      refine loop_from _ n (a + 1) (fun b hkb ihb b0 z z2 L t y4 y5 y6 ht hz hz2 hE hst => ?_)
      have e4z : z 186 f = n := by rw [hz.1 186 (by decide) (by decide)]; exact e4
      have body : b < n → Run X (d + 3) c_M_findEdges 31 [some (pR 184), some (pI f), some (pI s), some (pI t), y4, y5, y6] [] S z z2 0 0 Q := by
        intro hbn
        have hlt := hS2 a b a0 (by omega) hbn
        have hab : I b ≠ I a ∨ J b ≠ J a := by unfold lexlt at hlt; omega
        obtain ⟨ga1, ga2, ga3⟩ := hel a a0 han
        obtain ⟨gb1, gb2, gb3⟩ := hel b (by omega) hbn
        rw [← hs, ← hz.1 187 (by decide) (by decide)] at ga1
        rw [← hs, ← hz.1 188 (by decide) (by decide)] at ga2
        rw [← ht, ← hz.1 187 (by decide) (by decide)] at gb1
        rw [← ht, ← hz.1 188 (by decide) (by decide)] at gb2
        have ra := hrg a a0 han
        have rb := hrg b (by omega) hbn
        have ia := i0 a a0 han
        have ib := i0 b (by omega) hbn
        rw [← hs] at ia
        rw [← ht] at ib
        obtain ⟨g1, gd, ge⟩ := dir_eq (I := I) (J := J) hab
        obtain ⟨gg, -, -⟩ := gcd_gc2 (a := I b - I a) (b := J b - J a) (by omega)
        have gb := gc_b (a := I b - I a) (b := J b - J a) (B := 8) (by omega) (by omega) (by decide)
        obtain ⟨db, eb⟩ := dir_b (I := I) (J := J) hab (by omega) (by omega)
        have hTz : FM z f n I J V := FM_fr hT0 (fun c c0 c1 => hz.1 c (by omega) (by omega))
        have wb := fun (Q' : PQ) => x_bounds (X := X) (d := d + 2) (Q := Q') (zL := z2) hS hf hTz hR0 ⟨a0, han⟩ ⟨show 0 ≤ b by omega, hbn⟩ hab hs ht (show 0 < gc (I b - I a) (J b - J a) by omega) gd ge db eb
        have nx : ∀ (z z2 : ZM) (L2 : List EE) (y4 y5 y6 : Option PV), frE z zI → frEL z2 zL → EH z z2 f I J V L2 → L2 = edE n I J V L a b → Run X (d + 3) c_M_findEdges 180 [some (pR 184), some (pI f), some (pI s), some (pI t), y4, y5, y6] [] S z z2 0 0 Q := by
          intro z z2 L2 y4 y5 y6 hz hz2 hE hL2
          rw [edJ_s hbn, ← hL2] at hst
          refine r_iinc rfl rfl ?_
          refine r_goto rfl ?_
          exact ihb hbn (by omega) z z2 L2 _ _ _ _ (by omega) hz hz2 hE hst
        have nx1 : ∀ l g, stF n I J V a b = some (l, g) → ∀ z3 z4, frB z3 z → frBL z4 z2 → BHM z3 z4 n I J V a b (dirX I J a b) (dirY I J a b) l g → Run X (d + 3) c_M_findEdges 73 [some (pR 184), some (pI f), some (pI s), some (pI t), some (pI (I b - I a)), some (pI (J b - J a)), some (pI (gc (I b - I a) (J b - J a)))] [] S z3 z4 0 0 Q := by
          intro l g hsome z3 z4 f3 f4 hB
          have hL2 : L ++ [(a, b, l, g)] = edE n I J V L a b := by unfold edE; rw [hsome]
          have hlen : (L.length : Int) < 780 := by
            have h1 := edI_len (n := n) (I := I) (J := J) (V := V) (n - (a + 1)).toNat (a + 1) (edJ n I J V a (n - b).toNat b L)
            rw [hst] at h1
            rw [edJ_s hbn, ← hL2] at h1
            have h2 := edJ_len (n := n) (a := a) (I := I) (J := J) (V := V) (n - (b + 1)).toNat (b + 1) (L ++ [(a, b, l, g)])
            rw [List.length_append] at h2
            simp only [List.length_cons, List.length_nil] at h2
            omega
          have hz3 := frE_b hz f3
          have hz4 := frEL_b hz2 f4
          obtain ⟨b27, b28⟩ := BHM_b hR0 ⟨a0, han⟩ ⟨show 0 ≤ b by omega, hbn⟩ hab db eb hB
          have byb := byE_b hR0 ⟨a0, han⟩ ⟨show 0 ≤ b by omega, hbn⟩ hab
          have slg := fun k => slE_g (k := k) gd ge
          have sgk := fun k => sgn_g (show 0 < gc (I b - I a) (J b - J a) by omega) (slg k)
          have n27 : z3 184 27 = n1 l := by
            unfold n1
            rcases hB.1 with ⟨q1, q2⟩ | ⟨q1, -, -, q2, -⟩
            · rw [if_pos q1]; exact q2
            · rw [if_neg (by omega)]; exact q2
          have n28 : z3 184 28 = n1 g := by
            unfold n1
            rcases hB.2 with ⟨q1, q2⟩ | ⟨q1, -, -, q2, -⟩
            · rw [if_pos q1]; exact q2
            · rw [if_neg (by omega)]; exact q2
          have i27 := n1_i l
          have i28 := n1_i g
          have hl : z3 184 27 ≠ 0 → 0 < slE I J a (dirX I J a b) (dirY I J a b) l ∧ z4 184 29 = -(rsE I J V a b l) ∧ z4 184 30 = slE I J a (dirX I J a b) (dirY I J a b) l * byE I J a b := fun q => by
            rcases hB.1 with ⟨-, k⟩ | ⟨-, -, k3, -, k4, k5⟩
            · exact absurd k q
            · exact ⟨k3, k4, k5⟩
          have hgg : z3 184 28 ≠ 0 → slE I J a (dirX I J a b) (dirY I J a b) g < 0 ∧ z4 184 31 = rsE I J V a b g ∧ z4 184 32 = -(slE I J a (dirX I J a b) (dirY I J a b) g) * byE I J a b := fun q => by
            rcases hB.2 with ⟨-, k⟩ | ⟨-, -, k3, -, k4, k5⟩
            · exact absurd k q
            · exact ⟨k3, k4, k5⟩
          refine v_edW (x0 := cpX I J V a b l) (x1 := cpXD I J V a b l) (x2 := cpY I J V a b l) (x3 := cpYD I J V a b l) (y0 := cpX I J V a b g) (y1 := cpXD I J V a b g) (y2 := cpY I J V a b g) (y3 := cpYD I J V a b g) (k := (L.length : Int)) (dx := dirX I J a b) (dy := dirY I J a b) hS ?_ ⟨by omega, hlen⟩ (by unfold inI; omega) (by unfold inI; omega) (by unfold inI; omega) (by omega) rfl rfl (by rw [n27]; exact i27) (by rw [n28]; exact i28) (fun q Q' hQ' => ?_) (fun q zz Q' hzz hQ' => ?_) (fun z5 c1 c2 c3 c4 => ?_)
          · rw [f3.2 18 (by decide) (by decide)]; exact hE.1
          · obtain ⟨l1, l2, l3⟩ := hl q
            have bb : (-102400 ≤ z4 184 29 ∧ z4 184 29 ≤ 102400) ∧ 0 ≤ z4 184 30 ∧ z4 184 30 ≤ 16384 := by rcases b27 with k | ⟨-, k⟩; exact absurd k q; exact k
            have hB0 : z4 184 30 ≠ 0 := by rw [l3]; exact Int.mul_ne_zero (by omega) (by omega)
            have pe := pt_low (V := V) (show 0 < gc (I b - I a) (J b - J a) by omega) gd ge byb.1 (show slE I J a (dirX I J a b) (dirY I J a b) l ≠ 0 by omega) (by have := (sgk l).1.mp l1; omega)
            refine x_pointOf hS hf (FM_fr hTz (fun c k0 k1 => by rw [edZ_row (by omega), f3.1 c (by omega)])) hR0 ⟨a0, han⟩ ⟨show 0 ≤ b by omega, hbn⟩ hab hs ht db eb ⟨by omega, by omega⟩ bb.1 ⟨by omega, by omega⟩ hB0 ?_
            rw [l2, l3, pe.1.1, pe.1.2, pe.2.1, pe.2.2]; exact hQ'
          · obtain ⟨l1, l2, l3⟩ := hgg q
            have e31 : zz 184 31 = z4 184 31 := by rw [hzz 184 (by decide)]
            have e32 : zz 184 32 = z4 184 32 := by rw [hzz 184 (by decide)]
            have bb : (-102400 ≤ z4 184 31 ∧ z4 184 31 ≤ 102400) ∧ 0 ≤ z4 184 32 ∧ z4 184 32 ≤ 16384 := by rcases b28 with k | ⟨-, k⟩; exact absurd k q; exact k
            have hB0 : z4 184 32 ≠ 0 := by rw [l3]; exact Int.mul_ne_zero (by omega) (by omega)
            have pe := pt_high (V := V) (show 0 < gc (I b - I a) (J b - J a) by omega) gd ge byb.1 (show slE I J a (dirX I J a b) (dirY I J a b) g ≠ 0 by omega) (by have := (sgk g).2.2.mp l1; omega)
            rw [e31, e32]
            refine x_pointOf hS hf (FM_fr hTz (fun c k0 k1 => by rw [edZ_row (by omega), f3.1 c (by omega)])) hR0 ⟨a0, han⟩ ⟨show 0 ≤ b by omega, hbn⟩ hab hs ht db eb ⟨by omega, by omega⟩ bb.1 ⟨by omega, by omega⟩ hB0 ?_
            rw [l2, l3, pe.1.1, pe.1.2, pe.2.1, pe.2.2]; exact hQ'
          · have hE3 : EH z3 z4 f I J V L := by
              refine ⟨by rw [f3.2 18 (by decide) (by decide)]; exact hE.1, fun k e hk => ?_⟩
              have := hE.2 k e hk
              unfold EdH ptH at this ⊢
              rw [f3.1 196 (by decide), f3.1 197 (by decide), f3.1 198 (by decide), f3.1 199 (by decide), f3.1 200 (by decide), f3.1 201 (by decide), f3.1 202 (by decide), f4.1 203 (by decide)]
              exact this
            have hE4 : EH (zput (edZ z3 (L.length : Int) s t (dirX I J a b) (dirY I J a b) (gc (I b - I a) (J b - J a)) (z3 184 27) (z3 184 28)) 184 18 ((L.length : Int) + 1)) z5 f I J V (L ++ [(a, b, l, g)]) := by
              rw [hs, ht]
              exact EH_app (e := (a, b, l, g)) hE3 rfl rfl rfl n27 n28 c2 (fun q => c3 (by rw [n27]; unfold n1; rw [if_neg q]; decide)) (fun q => c4 (by rw [n28]; unfold n1; rw [if_neg q]; decide))
            exact nx _ z5 (L ++ [(a, b, l, g)]) _ _ _ (frE_z hz3) ⟨fun c k0 k1 => by rw [c1 c k1]; exact hz4.1 c k0 k1, fun k k0 => by rw [c1 184 (by decide)]; exact hz4.2 k k0⟩ hE4 hL2
        clear hlt hab
        refine r_aload_n rfl rfl ?_
        refine r_getR rfl (so184 hS) (sr184_3 hS) ?_
        refine r_iload_n rfl rfl ?_
        refine r_iald rfl (sw187 hS) (by omega) (by omega) ?_
        rw [gb1]
        refine r_aload_n rfl rfl ?_
        refine r_getR rfl (so184 hS) (sr184_3 hS) ?_
        refine r_iload_n rfl rfl ?_
        refine r_iald rfl (sw187 hS) (by omega) (by omega) ?_
        rw [ga1]
        refine r_isub rfl ?_
        refine r_istore rfl (Nat.le_of_ble_eq_true rfl) ?_
        refine r_aload_n rfl rfl ?_
        refine r_getR rfl (so184 hS) (sr184_4 hS) ?_
        refine r_iload_n rfl rfl ?_
        refine r_iald rfl (sw188 hS) (by omega) (by omega) ?_
        rw [gb2]
        refine r_aload_n rfl rfl ?_
        refine r_getR rfl (so184 hS) (sr184_4 hS) ?_
        refine r_iload_n rfl rfl ?_
        refine r_iald rfl (sw188 hS) (by omega) (by omega) ?_
        rw [ga2]
        refine r_isub rfl ?_
        refine r_istore rfl (Nat.le_of_ble_eq_true rfl) ?_
        refine r_aload_n rfl rfl ?_
        refine r_iload rfl rfl ?_
        refine r_i2l rfl (by unfold inI; omega) ?_
        refine r_iload rfl rfl ?_
        refine r_i2l rfl (by unfold inI; omega) ?_
        refine r_cV3 rfl (so184 hS) (Nat.le_of_ble_eq_true rfl) rfl rfl (x_divisor hS (by omega) (by omega) ?_)
        rw [gg]
        refine r_l2i rfl ?_
        refine r_istore rfl (Nat.le_of_ble_eq_true rfl) ?_
        refine r_aload_n rfl rfl ?_
        refine r_iload_n rfl rfl ?_
        refine r_iload_n rfl rfl ?_
        refine r_iload_n rfl rfl ?_
        refine r_iload rfl rfl ?_
        refine r_ineg rfl ?_
        refine r_iload rfl rfl ?_
        refine r_idiv rfl (by unfold inI; omega) (by unfold inI; omega) (by omega) ?_
        refine r_iload rfl rfl ?_
        refine r_iload rfl rfl ?_
        refine r_idiv rfl (by unfold inI; omega) (by unfold inI; omega) (by omega) ?_
        rw [show (-(J b - J a)).tdiv (gc (I b - I a) (J b - J a)) = dirX I J a b from rfl, show (I b - I a).tdiv (gc (I b - I a) (J b - J a)) = dirY I J a b from rfl]
        refine r_cV6 rfl (so184 hS) (Nat.le_of_ble_eq_true rfl) rfl rfl (wb _ (fun hno z3 z4 f3 f4 => ?_) (fun l g hsome z3 z4 f3 f4 hB => ?_))
        · skip
          refine r_if_ne0 rfl ?_
          refine r_goto rfl ?_
          refine nx z3 z4 L _ _ _ (frE_b hz f3) (frEL_b hz2 f4) ⟨by rw [f3.2 18 (by decide) (by decide)]; exact hE.1, fun k e hk => ?_⟩ (by unfold edE; rw [hno])
          have := hE.2 k e hk
          unfold EdH ptH at this ⊢
          rw [f3.1 196 (by decide), f3.1 197 (by decide), f3.1 198 (by decide), f3.1 199 (by decide), f3.1 200 (by decide), f3.1 201 (by decide), f3.1 202 (by decide), f4.1 203 (by decide)]
          exact this
        · skip
          refine r_if_ne1 rfl ?_
          exact nx1 l g hsome z3 z4 f3 f4 hB
      refine r_iload_n rfl rfl ?_
      refine r_bipush rfl ?_
      refine r_iload_n rfl rfl ?_
      refine r_imul rfl ?_
      refine r_aload_n rfl rfl ?_
      refine r_getR rfl (so184 hS) (sr184_2 hS) ?_
      refine r_iload_n rfl rfl ?_
      refine r_iald rfl (sw186 hS) (by omega) (by omega) ?_
      rw [e4z]
      refine r_iadd rfl ?_
      refine r_icmp_ge rfl (by unfold inI; omega) (by unfold inI; omega) (fun h30 => ?_) (fun h30 => ?_)
      · skip
        rw [edJ_e (by omega)] at hst
        refine r_iinc rfl rfl ?_
        refine r_goto rfl ?_
        exact ih han (by omega) z z2 L _ _ _ _ _ (by omega) hz hz2 hE hst
      · skip
        exact body (by omega)
    refine r_iload_n rfl rfl ?_
    refine r_bipush rfl ?_
    refine r_iload_n rfl rfl ?_
    refine r_imul rfl ?_
    refine r_aload_n rfl rfl ?_
    refine r_getR rfl (so184 hS) (sr184_2 hS) ?_
    refine r_iload_n rfl rfl ?_
    refine r_iald rfl (sw186 hS) (by omega) (by omega) ?_
    rw [e4z]
    refine r_iadd rfl ?_
    refine r_icmp_ge rfl (by unfold inI; omega) (by unfold inI; omega) (fun h16 => ?_) (fun h16 => ?_)
    · skip
      refine r_ret rfl ?_
      rw [edI_e (by omega)] at hst; rw [← hst] at hQ; exact hQ z z2 hz hz2 hE
    · skip
      refine r_iload_n rfl rfl ?_
      refine r_iconst rfl ?_
      refine r_iadd rfl ?_
      refine r_istore_n rfl (Nat.le_of_ble_eq_true rfl) ?_
      rw [edI_s (by omega)] at hst
      exact inner (by omega) (a + 1) (by omega) (Int.le_refl _) z z2 L _ _ _ _ (by omega) hz hz2 hE hst
  refine wp_in (C := c_M_findEdges) (ls := [some (pR 184), some (pI f), none, none, none, none, none]) rfl rfl rfl rfl rfl ?_
  refine r_aload_n rfl rfl ?_
  refine r_iconst rfl ?_
  refine r_putI rfl (so184 hS) ?_
  refine r_bipush rfl ?_
  refine r_iload_n rfl rfl ?_
  refine r_imul rfl ?_
  refine r_istore_n rfl (Nat.le_of_ble_eq_true rfl) ?_
  refine outer 0 hn0 (Int.le_refl _) _ zL [] _ _ _ _ _ (by omega) ⟨fun c c0 c1 => zput_row c0, fun k k0 k1 k2 => zput_off k0⟩ (frEL_r zL) ⟨zput_at, fun k e hk => by simp at hk⟩ (by rw [Int.sub_zero]; rfl)
