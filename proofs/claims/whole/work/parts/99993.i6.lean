/-! GEOMETRY: at most 128 meets; the mathematics as a whole -/
section FIN
variable {n : Int} {I J V : Int → Int} {n2 : Int} {I2 J2 V2 : Int → Int}
noncomputable def bP (n2 : Int) (I2 J2 V2 : Int → Int) (x xd y yd : Int) : Int := Classical.epsilon (fun m => MinP n2 I2 J2 V2 x xd y yd m)
theorem bP_ok (hn : 0 < n2) (x xd y yd : Int) : MinP n2 I2 J2 V2 x xd y yd (bP n2 I2 J2 V2 x xd y yd) := by
  obtain ⟨h, h0, h1, h2⟩ := argmax (fun k => -(wP I2 J2 V2 x xd y yd k)) n2.toNat (by omega)
  exact Classical.epsilon_spec (p := fun m => MinP n2 I2 J2 V2 x xd y yd m) ⟨h, ⟨h0, by omega⟩, fun k k0 k1 => by have := h2 k k0 (by omega); omega⟩
noncomputable def bM (n2 : Int) (f : Int → Int) : Int := Classical.epsilon (fun m => (0 ≤ m ∧ m < n2) ∧ ∀ k, 0 ≤ k → k < n2 → f k ≤ f m)
theorem bM_ok (hn : 0 < n2) (f : Int → Int) : (0 ≤ bM n2 f ∧ bM n2 f < n2) ∧ ∀ k, 0 ≤ k → k < n2 → f k ≤ f (bM n2 f) := by
  obtain ⟨h, h0, h1, h2⟩ := argmax f n2.toNat (by omega)
  exact Classical.epsilon_spec (p := fun m => (0 ≤ m ∧ m < n2) ∧ ∀ k, 0 ≤ k → k < n2 → f k ≤ f m) ⟨h, ⟨h0, by omega⟩, fun k k0 k1 => h2 k k0 (by omega)⟩
noncomputable def bF (I J V : Int → Int) (n2 : Int) (I2 J2 V2 : Int → Int) (e : EE) : Int := if e.2.2.1 = -1 then bM n2 (slp I J e.1 e.2.1 I2 J2) else bP n2 I2 J2 V2 (cpX I J V e.1 e.2.1 e.2.2.1) (cpXD I J V e.1 e.2.1 e.2.2.1) (cpY I J V e.1 e.2.1 e.2.2.1) (cpYD I J V e.1 e.2.1 e.2.2.1)
noncomputable def bL (I J V : Int → Int) (n2 : Int) (I2 J2 V2 : Int → Int) (e : EE) : Int := if e.2.2.2 = -1 then bM n2 (fun k => -(slp I J e.1 e.2.1 I2 J2 k)) else bP n2 I2 J2 V2 (cpX I J V e.1 e.2.1 e.2.2.2) (cpXD I J V e.1 e.2.1 e.2.2.2) (cpY I J V e.1 e.2.1 e.2.2.2) (cpYD I J V e.1 e.2.1 e.2.2.2)
theorem bF_r (hn : 0 < n2) (e : EE) : 0 ≤ bF I J V n2 I2 J2 V2 e ∧ bF I J V n2 I2 J2 V2 e < n2 := by
  unfold bF
  split
  · exact (bM_ok hn _).1
  · exact (bP_ok hn _ _ _ _).1
theorem bL_r (hn : 0 < n2) (e : EE) : 0 ≤ bL I J V n2 I2 J2 V2 e ∧ bL I J V n2 I2 J2 V2 e < n2 := by
  unfold bL
  split
  · exact (bM_ok hn _).1
  · exact (bP_ok hn _ _ _ _).1
/-- the first end is before the last -/
theorem bLF (hn : 0 < n2) (hR : FR n I J V) (hS : FS n I J) {e : EE} (he : edOK n I J V e) : slp I J e.1 e.2.1 I2 J2 (bL I J V n2 I2 J2 V2 e) ≤ slp I J e.1 e.2.1 I2 J2 (bF I J V n2 I2 J2 V2 e) := by
  have rF := bF_r (I := I) (J := J) (V := V) (I2 := I2) (J2 := J2) (V2 := V2) hn e
  have rL := bL_r (I := I) (J := J) (V := V) (I2 := I2) (J2 := J2) (V2 := V2) hn e
  by_cases c1 : e.2.2.1 = -1
  · have := (bM_ok hn (slp I J e.1 e.2.1 I2 J2)).2 _ rL.1 rL.2
    have e1 : bF I J V n2 I2 J2 V2 e = bM n2 (slp I J e.1 e.2.1 I2 J2) := if_pos c1
    rw [e1]; exact this
  · by_cases c2 : e.2.2.2 = -1
    · have := (bM_ok hn (fun k => -(slp I J e.1 e.2.1 I2 J2 k))).2 _ rF.1 rF.2
      have e1 : bL I J V n2 I2 J2 V2 e = bM n2 (fun k => -(slp I J e.1 e.2.1 I2 J2 k)) := if_pos c2
      rw [e1]; omega
    · have e1 : bF I J V n2 I2 J2 V2 e = bP n2 I2 J2 V2 (cpX I J V e.1 e.2.1 e.2.2.1) (cpXD I J V e.1 e.2.1 e.2.2.1) (cpY I J V e.1 e.2.1 e.2.2.1) (cpYD I J V e.1 e.2.1 e.2.2.1) := if_neg c1
      have e2 : bL I J V n2 I2 J2 V2 e = bP n2 I2 J2 V2 (cpX I J V e.1 e.2.1 e.2.2.2) (cpXD I J V e.1 e.2.1 e.2.2.2) (cpY I J V e.1 e.2.1 e.2.2.2) (cpYD I J V e.1 e.2.1 e.2.2.2) := if_neg c2
      rw [e1, e2]
      obtain ⟨f0, f1, f2, f3⟩ := he
      have nn := pq_pos (hS e.1 e.2.1 f0 f1 f2)
      obtain ⟨o1, o2⟩ := stF_ok hR.1 f3
      obtain ⟨-, -, -, hem⟩ := stF_max hR.1 f3
      obtain ⟨l0, l1, l2⟩ : 0 ≤ e.2.2.1 ∧ e.2.2.1 < n ∧ 0 < trE I J e.1 e.2.1 e.2.2.1 := by rcases o1 with k | k; exact absurd k c1; exact k
      obtain ⟨g0, g1, g2⟩ : 0 ≤ e.2.2.2 ∧ e.2.2.2 < n ∧ trE I J e.1 e.2.1 e.2.2.2 < 0 := by rcases o2 with k | k; exact absurd k c2; exact k
      obtain ⟨x1, x2⟩ := cn_ln (V := V) hR ⟨f0, Int.lt_trans f1 f2⟩ ⟨by omega, f2⟩ ⟨l0, l1⟩ (show trE I J e.1 e.2.1 e.2.2.1 ≠ 0 by omega)
      obtain ⟨y1, y2⟩ := cn_ln (V := V) hR ⟨f0, Int.lt_trans f1 f2⟩ ⟨by omega, f2⟩ ⟨g0, g1⟩ (show trE I J e.1 e.2.1 e.2.2.2 ≠ 0 by omega)
      have dx := cp_pos (V := V) hR ⟨f0, Int.lt_trans f1 f2⟩ ⟨by omega, f2⟩ ⟨l0, l1⟩ (show trE I J e.1 e.2.1 e.2.2.1 ≠ 0 by omega)
      have dy := cp_pos (V := V) hR ⟨f0, Int.lt_trans f1 f2⟩ ⟨by omega, f2⟩ ⟨g0, g1⟩ (show trE I J e.1 e.2.1 e.2.2.2 ≠ 0 by omega)
      refine mono nn dx dy x1 y1 (bP_ok hn _ _ _ _) (bP_ok hn _ _ _ _) ?_
      have h3 : -(rsE I J V e.1 e.2.1 e.2.2.1) * -(trE I J e.1 e.2.1 e.2.2.2) < rsE I J V e.1 e.2.1 e.2.2.2 * trE I J e.1 e.2.1 e.2.2.1 := by
        rcases (show -(rsE I J V e.1 e.2.1 e.2.2.1) * -(trE I J e.1 e.2.1 e.2.2.2) < rsE I J V e.1 e.2.1 e.2.2.2 * trE I J e.1 e.2.1 e.2.2.1 ∨ rsE I J V e.1 e.2.1 e.2.2.2 * trE I J e.1 e.2.1 e.2.2.1 ≤ -(rsE I J V e.1 e.2.1 e.2.2.1) * -(trE I J e.1 e.2.1 e.2.2.2) by omega) with s | s
        · exact s
        · exact absurd ⟨c1, c2, s⟩ hem
      generalize alg (I e.2.1 - I e.1) (J e.2.1 - J e.1) (cpX I J V e.1 e.2.1 e.2.2.1) (cpXD I J V e.1 e.2.1 e.2.2.1) (cpY I J V e.1 e.2.1 e.2.2.1) (cpYD I J V e.1 e.2.1 e.2.2.1) = SF at *
      generalize alg (I e.2.1 - I e.1) (J e.2.1 - J e.1) (cpX I J V e.1 e.2.1 e.2.2.2) (cpXD I J V e.1 e.2.1 e.2.2.2) (cpY I J V e.1 e.2.1 e.2.2.2) (cpYD I J V e.1 e.2.1 e.2.2.2) = SL at *
      generalize cpXD I J V e.1 e.2.1 e.2.2.1 * cpYD I J V e.1 e.2.1 e.2.2.1 = DF at *
      generalize cpXD I J V e.1 e.2.1 e.2.2.2 * cpYD I J V e.1 e.2.1 e.2.2.2 = DL at *
      have k1 : SF * trE I J e.1 e.2.1 e.2.2.1 ≤ -(rsE I J V e.1 e.2.1 e.2.2.1) * DF := by rw [Int.neg_mul, Int.mul_comm (rsE I J V e.1 e.2.1 e.2.2.1)]; omega
      have k2 : rsE I J V e.1 e.2.1 e.2.2.2 * DL ≤ SL * -(trE I J e.1 e.2.1 e.2.2.2) := by rw [Int.mul_neg, Int.mul_comm (rsE I J V e.1 e.2.1 e.2.2.2)]; omega
      have k3 := fr_lt (f := -(trE I J e.1 e.2.1 e.2.2.2)) dx l2 (by omega) k1 h3
      exact fr_lt2 dx (by omega) dy k3 k2
theorem hits_le (hn : 0 < n2) (hR : FR n I J V) (hS : FS n I J) (hR2 : FR n2 I2 J2 V2) (hS2 : FS n2 I2 J2) (c1 : clS n I J V n2 I2 J2 V2 = 0) (c2 : clS n2 I2 J2 V2 n I J V = 0) {e : EE} (hm : e ∈ edL n I J V) : ((hitL n I J V n2 I2 J2 V2 e (edL n2 I2 J2 V2)).length : Int) ≤ slp I J e.1 e.2.1 I2 J2 (bF I J V n2 I2 J2 V2 e) - slp I J e.1 e.2.1 I2 J2 (bL I J V n2 I2 J2 V2 e) := by
  have he := edL_ok hR.1 e hm
  obtain ⟨i, hi⟩ := List.getElem?_of_mem hm
  have hc := clE_ok (n2 := n2) (I2 := I2) (J2 := J2) (V2 := V2) (drw_ok hR hS) c1 hi
  refine hit_cnt hR hS hR2 hS2 he (fun o ho => ?_) (fun o ho hh => ?_) (bLF hn hR hS he)
  · obtain ⟨j, hj⟩ := List.getElem?_of_mem ho
    exact clE_ok (drw_ok hR2 hS2) c2 hj
  · have ho' := edL_ok hR2.1 o ho
    have hp := hit_of hR hS hR2 hS2 he ho' hh
    have r1 := ho'.1
    have r2 := ho'.2.1
    have r3 := ho'.2.2.1
    constructor
    · by_cases c : e.2.2.1 = -1
      · have e1 : bF I J V n2 I2 J2 V2 e = bM n2 (slp I J e.1 e.2.1 I2 J2) := if_pos c
        rw [e1]
        exact ⟨(bM_ok hn (slp I J e.1 e.2.1 I2 J2)).2 _ r1 (by omega), (bM_ok hn (slp I J e.1 e.2.1 I2 J2)).2 _ (by omega) r3⟩
      · have e1 : bF I J V n2 I2 J2 V2 e = bP n2 I2 J2 V2 (cpX I J V e.1 e.2.1 e.2.2.1) (cpXD I J V e.1 e.2.1 e.2.2.1) (cpY I J V e.1 e.2.1 e.2.2.1) (cpYD I J V e.1 e.2.1 e.2.2.1) := if_neg c
        rw [e1]
        exact hit_lo hR hS hS2 he ho' hc hp c (bP_ok hn _ _ _ _)
    · by_cases c : e.2.2.2 = -1
      · have e1 : bL I J V n2 I2 J2 V2 e = bM n2 (fun k => -(slp I J e.1 e.2.1 I2 J2 k)) := if_pos c
        rw [e1]
        have s1 := (bM_ok hn (fun k => -(slp I J e.1 e.2.1 I2 J2 k))).2 o.1 r1 (by omega)
        have s2 := (bM_ok hn (fun k => -(slp I J e.1 e.2.1 I2 J2 k))).2 o.2.1 (by omega) r3
        omega
      · have e1 : bL I J V n2 I2 J2 V2 e = bP n2 I2 J2 V2 (cpX I J V e.1 e.2.1 e.2.2.2) (cpXD I J V e.1 e.2.1 e.2.2.2) (cpY I J V e.1 e.2.1 e.2.2.2) (cpYD I J V e.1 e.2.1 e.2.2.2) := if_neg c
        rw [e1]
        exact hit_hi hR hS hS2 he ho' hc hp c (bP_ok hn _ _ _ _)
def cl8 (v : Int) : Int := max 0 (min 8 v)
theorem cl8_b (v : Int) : 0 ≤ cl8 v ∧ cl8 v ≤ 8 := by unfold cl8; omega
theorem cl8_i {v : Int} (h0 : 0 ≤ v) (h1 : v ≤ 8) : cl8 v = v := by unfold cl8; omega
theorem lev8 {L G : Int → Int} {α β x : Int} (hl : ∀ t, 2 * L t = α * I t + β * J t) (hab : 0 < α * α + β * β) (hR : FR n I J V) (hS : FS n I J) : -8 ≤ sm (fun e => lvC L x e * (cl8 (G (bF I J V n2 I2 J2 V2 e)) - cl8 (G (bL I J V n2 I2 J2 V2 e)))) (edL n I J V) ∧ sm (fun e => lvC L x e * (cl8 (G (bF I J V n2 I2 J2 V2 e)) - cl8 (G (bL I J V n2 I2 J2 V2 e)))) (edL n I J V) ≤ 8 := by
  refine level (hF := fun e => cl8 (G (bF I J V n2 I2 J2 V2 e))) (hL := fun e => cl8 (G (bL I J V n2 I2 J2 V2 e))) (hK := fun k => cl8 (G (bP n2 I2 J2 V2 ((crL n I J V).2.1 k) ((crL n I J V).2.2.1 k) ((crL n I J V).2.2.2.1 k) ((crL n I J V).2.2.2.2.1 k)))) hl hab hR hS (fun e => cl8_b _) (fun e => cl8_b _) (fun e k k0 k1 h => ?_) (fun e k k0 k1 h => ?_)
  · obtain ⟨q0, q1, q2, q3, q4⟩ := h
    rw [q1, q2, q3, q4]
    unfold bF
    rw [if_neg q0]
  · obtain ⟨q0, q1, q2, q3, q4⟩ := h
    rw [q1, q2, q3, q4]
    unfold bL
    rw [if_neg q0]
end FIN
theorem capm : CAPM := by
  intro n I J V n2 I2 J2 V2 hR hS hR2 hS2 c1 c2
  have e0 : (meetsM n I J V n2 I2 J2 V2 (edL n I J V) (edL n2 I2 J2 V2)).1 = sm (fun e => ((hitL n I J V n2 I2 J2 V2 e (edL n2 I2 J2 V2)).length : Int)) (edL n I J V) := (mt_cnt (edL n I J V) m00).trans (Int.zero_add _)
  rw [e0]
  by_cases hn : 0 < n2
  · have s1 := sm_le (edL n I J V) (φ := fun e => ((hitL n I J V n2 I2 J2 V2 e (edL n2 I2 J2 V2)).length : Int)) (ψ := fun e => sumN (fun x => lvC I x e * (cl8 (J2 (bF I J V n2 I2 J2 V2 e)) - cl8 (J2 (bL I J V n2 I2 J2 V2 e)))) 8 - sumN (fun x => lvC J x e * (cl8 (I2 (bF I J V n2 I2 J2 V2 e)) - cl8 (I2 (bL I J V n2 I2 J2 V2 e)))) 8) (fun e he => by
      have h := hits_le hn hR hS hR2 hS2 c1 c2 he
      have ho := edL_ok hR.1 e he
      have ra := hR.2.2 e.1 ho.1 (by have := ho.2.1; have := ho.2.2.1; omega)
      have rb := hR.2.2 e.2.1 (by have := ho.1; have := ho.2.1; omega) ho.2.2.1
      have fr := bF_r (I := I) (J := J) (V := V) (I2 := I2) (J2 := J2) (V2 := V2) hn e
      have lr := bL_r (I := I) (J := J) (V := V) (I2 := I2) (J2 := J2) (V2 := V2) hn e
      have rF := hR2.2.2 _ fr.1 fr.2
      have rL := hR2.2.2 _ lr.1 lr.2
      have cm : ∀ (L : Int → Int) (c : Int), sumN (fun x => lvC L x e * c) 8 = c * sumN (fun x => lvC L x e) 8 := fun L c => by
        rw [← sumN_mul]; exact sumN_eq _ (fun x _ _ => Int.mul_comm _ _)
      rw [cm, cm, lv_sum ra.1 rb.1, lv_sum ra.2.2.1 rb.2.2.1, cl8_i rF.1 rF.2.1, cl8_i rL.1 rL.2.1, cl8_i rF.2.2.1 rF.2.2.2.1, cl8_i rL.2.2.1 rL.2.2.2.1]
      have m8 : ∀ v : Int, v ≤ 8 → min ((8 : Nat) : Int) v = v := fun v hv => by omega
      rw [m8 _ rb.2.1, m8 _ ra.2.1, m8 _ rb.2.2.2.1, m8 _ ra.2.2.2.1]
      unfold slp at h
      generalize bF I J V n2 I2 J2 V2 e = β at *
      generalize bL I J V n2 I2 J2 V2 e = γ at *
      have : (I e.2.1 - I e.1) * J2 β - (J e.2.1 - J e.1) * I2 β - ((I e.2.1 - I e.1) * J2 γ - (J e.2.1 - J e.1) * I2 γ) = (J2 β - J2 γ) * (I e.2.1 - I e.1) - (I2 β - I2 γ) * (J e.2.1 - J e.1) := by grind
      omega)
    rw [sm_sub, sm_swap (φ := fun x e => lvC I x e * (cl8 (J2 (bF I J V n2 I2 J2 V2 e)) - cl8 (J2 (bL I J V n2 I2 J2 V2 e)))), sm_swap (φ := fun x e => lvC J x e * (cl8 (I2 (bF I J V n2 I2 J2 V2 e)) - cl8 (I2 (bL I J V n2 I2 J2 V2 e))))] at s1
    have t1 := sumN_le (c := 8) (f := fun x => sm ((fun x e => lvC I x e * (cl8 (J2 (bF I J V n2 I2 J2 V2 e)) - cl8 (J2 (bL I J V n2 I2 J2 V2 e)))) x) (edL n I J V)) 8 (fun x _ _ => (lev8 (G := J2) (α := 2) (β := 0) (fun t => by omega) (by decide) hR hS).2)
    have t2 := sumN_le (c := 8) (f := fun x => -1 * sm ((fun x e => lvC J x e * (cl8 (I2 (bF I J V n2 I2 J2 V2 e)) - cl8 (I2 (bL I J V n2 I2 J2 V2 e)))) x) (edL n I J V)) 8 (fun x _ _ => by
      have := (lev8 (n2 := n2) (I2 := I2) (J2 := J2) (V2 := V2) (L := J) (x := x) (G := I2) (α := 0) (β := 2) (fun t => by omega) (by decide) hR hS).1
      show -1 * sm (fun e => lvC J x e * (cl8 (I2 (bF I J V n2 I2 J2 V2 e)) - cl8 (I2 (bL I J V n2 I2 J2 V2 e)))) (edL n I J V) ≤ 8
      omega)
    rw [sumN_mul] at t2
    try dsimp only at s1
    try dsimp only at t1
    try dsimp only at t2
    omega
  · have hz : edL n2 I2 J2 V2 = [] := by unfold edL; rw [show n2.toNat = 0 by omega]; rfl
    rw [hz]
    have : sm (fun e => ((hitL n I J V n2 I2 J2 V2 e []).length : Int)) (edL n I J V) = 0 := sm_z _
    omega
theorem maths : MATHS := maths_of capm
