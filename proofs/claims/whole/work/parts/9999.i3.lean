/-! GEOMETRY: how many meets an edge has; ends at one corner -/
section CN
variable {n : Int} {I J V : Int → Int} {n2 : Int} {I2 J2 V2 : Int → Int}
noncomputable def hitL (n : Int) (I J V : Int → Int) (n2 : Int) (I2 J2 V2 : Int → Int) (e : EE) (L : List EE) : List EE := L.filter (fun o => @decide (mHit n I J V n2 I2 J2 V2 e o) (Classical.propDecidable _))
theorem hitL_m {e o : EE} {L : List EE} (h : o ∈ hitL n I J V n2 I2 J2 V2 e L) : o ∈ L ∧ mHit n I J V n2 I2 J2 V2 e o := by
  unfold hitL at h
  obtain ⟨h1, h2⟩ := List.mem_filter.mp h
  exact ⟨h1, @of_decide_eq_true _ (Classical.propDecidable _) h2⟩
theorem mm_cnt {e : EE} : ∀ (L : List EE) (ms : MTS), (L.foldl (mmO n I J V n2 I2 J2 V2 e) ms).1 = ms.1 + ((hitL n I J V n2 I2 J2 V2 e L).length : Int)
  | [], ms => (Int.add_zero _).symm
  | o :: L, ms => by
    show (L.foldl (mmO n I J V n2 I2 J2 V2 e) (mmO n I J V n2 I2 J2 V2 e ms o)).1 = _
    rw [mm_cnt L]
    unfold hitL
    by_cases c : mHit n I J V n2 I2 J2 V2 e o
    · rw [mmO_1 c, List.filter_cons_of_pos (p := fun o => @decide (mHit n I J V n2 I2 J2 V2 e o) (Classical.propDecidable _)) (@decide_eq_true _ (Classical.propDecidable _) c), List.length_cons]
      show ms.1 + 1 + _ = _
      omega
    · rw [mmO_0 c, List.filter_cons_of_neg (p := fun o => @decide (mHit n I J V n2 I2 J2 V2 e o) (Classical.propDecidable _)) (fun q => c (@of_decide_eq_true _ (Classical.propDecidable _) q))]
theorem hit_cnt {e : EE} {sF sL : Int} (hR : FR n I J V) (hS : FS n I J) (hR2 : FR n2 I2 J2 V2) (hS2 : FS n2 I2 J2) (he : edOK n I J V e) (hc2 : ∀ o ∈ edL n2 I2 J2 V2, clE n I J V I2 J2 V2 o) (hb : ∀ o ∈ edL n2 I2 J2 V2, mHit n I J V n2 I2 J2 V2 e o → (slp I J e.1 e.2.1 I2 J2 o.1 ≤ sF ∧ slp I J e.1 e.2.1 I2 J2 o.2.1 ≤ sF) ∧ (sL ≤ slp I J e.1 e.2.1 I2 J2 o.1 ∧ sL ≤ slp I J e.1 e.2.1 I2 J2 o.2.1)) (hLF : sL ≤ sF) : ((hitL n I J V n2 I2 J2 V2 e (edL n2 I2 J2 V2)).length : Int) ≤ sF - sL := by
  have key := php (sF - sL).toNat (hitL n I J V n2 I2 J2 V2 e (edL n2 I2 J2 V2)).length (fun k c => ∃ o, (hitL n I J V n2 I2 J2 V2 e (edL n2 I2 J2 V2))[k]? = some o ∧ (c : Int) = losl I J e I2 J2 o - sL) (fun k hk => by
    have hg := List.getElem?_eq_getElem hk
    obtain ⟨m1, m2⟩ := hitL_m (List.mem_of_getElem? hg)
    obtain ⟨⟨u1, u2⟩, u3, u4⟩ := hb _ m1 m2
    have ho := edL_ok hR2.1 _ m1
    have ne := hit_ne (hit_of hR hS hR2 hS2 he ho m2)
    refine ⟨(losl I J e I2 J2 (hitL n I J V n2 I2 J2 V2 e (edL n2 I2 J2 V2))[k] - sL).toNat, ?_, _, hg, ?_⟩
    · unfold losl; omega
    · unfold losl; omega) (fun k k' c hk hk' r r' => by
    obtain ⟨o, g, ce⟩ := r
    obtain ⟨o', g', ce'⟩ := r'
    obtain ⟨m1, m2⟩ := hitL_m (List.mem_of_getElem? g)
    obtain ⟨m1', m2'⟩ := hitL_m (List.mem_of_getElem? g')
    have ho := edL_ok hR2.1 _ m1
    have ho' := edL_ok hR2.1 _ m1'
    obtain ⟨d1, d2⟩ := hit_dif hS hR2 hS2 he ho ho' (hc2 o m1) (hc2 o' m1') (hit_of hR hS hR2 hS2 he ho m2) (hit_of hR hS hR2 hS2 he ho' m2') (by omega)
    have hp := List.pairwise_iff_getElem.mp (List.Pairwise.filter (fun o => @decide (mHit n I J V n2 I2 J2 V2 e o) (Classical.propDecidable _)) (edL_pw (n := n2) (I := I2) (J := J2) (V := V2)))
    obtain ⟨q, q2⟩ := List.getElem?_eq_some_iff.mp g
    obtain ⟨q', q2'⟩ := List.getElem?_eq_some_iff.mp g'
    unfold hitL at q q2 q' q2'
    rcases Nat.lt_trichotomy k k' with c | c | c
    · have := hp k k' q q' c
      rw [q2, q2'] at this; unfold bef at this; omega
    · exact c
    · have := hp k' k q' q c
      rw [q2, q2'] at this; unfold bef at this; omega)
  omega
/-- an end of an edge that is the corner k -/
def atK (I J V : Int → Int) (K : KS) (k : Int) (e : EE) (l : Int) : Prop := l ≠ -1 ∧ K.2.1 k = cpX I J V e.1 e.2.1 l ∧ K.2.2.1 k = cpXD I J V e.1 e.2.1 l ∧ K.2.2.2.1 k = cpY I J V e.1 e.2.1 l ∧ K.2.2.2.2.1 k = cpYD I J V e.1 e.2.1 l
abbrev MK (n : Int) (I J V : Int → Int) (k m : Int) : Prop := MinP n I J V ((crL n I J V).2.1 k) ((crL n I J V).2.2.1 k) ((crL n I J V).2.2.2.1 k) ((crL n I J V).2.2.2.2.1 k) m
theorem cp_same {a b l x xd y yd : Int} (ht : trE I J a b l ≠ 0) (hr : redP x xd y yd) (hb : wP I J V x xd y yd b = wP I J V x xd y yd a) (hl : wP I J V x xd y yd l = wP I J V x xd y yd a) : x = cpX I J V a b l ∧ xd = cpXD I J V a b l ∧ y = cpY I J V a b l ∧ yd = cpYD I J V a b l := by
  have h1 := rd_eq (x := cnX I J V a b l) ht
  have h2 := rd_eq (x := cnY I J V a b l) ht
  have e1 : yd * (x * trE I J a b l - xd * cnX I J V a b l) = (J l - J a) * (wP I J V x xd y yd b - wP I J V x xd y yd a) - (J b - J a) * (wP I J V x xd y yd l - wP I J V x xd y yd a) := by unfold trE cnX wP wv; grind
  have e2 : xd * (y * trE I J a b l - yd * cnY I J V a b l) = (I b - I a) * (wP I J V x xd y yd l - wP I J V x xd y yd a) - (I l - I a) * (wP I J V x xd y yd b - wP I J V x xd y yd a) := by unfold trE cnY wP wv; grind
  rw [hb, hl, Int.sub_self, Int.mul_zero, Int.mul_zero, Int.sub_self] at e1 e2
  have f1 : x * trE I J a b l = xd * cnX I J V a b l := by rcases Int.mul_eq_zero.mp e1 with k | k; have := hr.1.2; omega; omega
  have f2 : y * trE I J a b l = yd * cnY I J V a b l := by rcases Int.mul_eq_zero.mp e2 with k | k; have := hr.1.1; omega; omega
  refine red_eq hr (cp_red (V := V) ht) ?_ ?_
  · show x * rdB (cnX I J V a b l) (trE I J a b l) = rdA (cnX I J V a b l) (trE I J a b l) * xd
    generalize rdB (cnX I J V a b l) (trE I J a b l) = B at *
    generalize rdA (cnX I J V a b l) (trE I J a b l) = A at *
    generalize cnX I J V a b l = X at *
    generalize trE I J a b l = T at *
    have : T * (x * B - A * xd) = 0 := by
      have : T * (x * B - A * xd) = (x * T) * B - (A * T) * xd := by grind
      rw [this, f1, h1]; grind
    rcases Int.mul_eq_zero.mp this with k | k
    · exact absurd k ht
    · omega
  · show y * rdB (cnY I J V a b l) (trE I J a b l) = rdA (cnY I J V a b l) (trE I J a b l) * yd
    generalize rdB (cnY I J V a b l) (trE I J a b l) = B at *
    generalize rdA (cnY I J V a b l) (trE I J a b l) = A at *
    generalize cnY I J V a b l = X at *
    generalize trE I J a b l = T at *
    have : T * (y * B - A * yd) = 0 := by
      have : T * (y * B - A * yd) = (y * T) * B - (A * T) * yd := by grind
      rw [this, f2, h2]; grind
    rcases Int.mul_eq_zero.mp this with k | k
    · exact absurd k ht
    · omega
theorem tr_sw (a b m : Int) : trE I J b a m = -(trE I J a b m) := by unfold trE; grind
/-- an end is a side of the hull of what is least there -/
theorem end_side {a b l : Int} (hR : FR n I J V) (h : isEnd I J V n a b l) : (0 < trE I J a b l → side I J (fun m => MinC n I J V a b l m) a b) ∧ (trE I J a b l < 0 → side I J (fun m => MinC n I J V a b l m) b a) := by
  obtain ⟨ma, mb, -⟩ := end_abl hR h
  have hh := h
  obtain ⟨a0, ab, bn, l0, l1, ht, h1, h2⟩ := h
  refine ⟨fun c => ⟨by omega, ma, mb, fun m hm => ?_⟩, fun c => ⟨by omega, mb, ma, fun m hm => ?_⟩⟩
  · obtain ⟨p1, p2⟩ := h2 m hm.1.1 hm.1.2 ((end_min hR hh hm.1).mp hm)
    exact ⟨Int.nonneg_of_mul_nonneg_right p1 c, fun z => Or.inl (p2 z)⟩
  · obtain ⟨p1, p2⟩ := h2 m hm.1.1 hm.1.2 ((end_min hR hh hm.1).mp hm)
    rw [tr_sw]
    refine ⟨Int.nonneg_of_mul_nonneg_right (show 0 ≤ -(trE I J a b l) * -(trE I J a b m) by rw [Int.neg_mul_neg]; exact p1) (by omega), fun z => Or.inr (p2 (by omega))⟩
/-- a level, and how an edge goes over it -/
def lvC (L : Int → Int) (x : Int) (e : EE) : Int := if L e.1 ≤ x ∧ x < L e.2.1 then 1 else if L e.2.1 ≤ x ∧ x < L e.1 then -1 else 0
def upE (I J V : Int → Int) (K : KS) (L : Int → Int) (x k : Int) (e : EE) : Prop := (atK I J V K k e e.2.2.1 ∧ lvC L x e = 1) ∨ (atK I J V K k e e.2.2.2 ∧ lvC L x e = -1)
def dnE (I J V : Int → Int) (K : KS) (L : Int → Int) (x k : Int) (e : EE) : Prop := (atK I J V K k e e.2.2.1 ∧ lvC L x e = -1) ∨ (atK I J V K k e e.2.2.2 ∧ lvC L x e = 1)
theorem lvC_1 {L : Int → Int} {x : Int} {e : EE} : (lvC L x e = 1 ↔ L e.1 ≤ x ∧ x < L e.2.1) ∧ (lvC L x e = -1 ↔ L e.2.1 ≤ x ∧ x < L e.1) := by
  unfold lvC
  split
  · exact ⟨⟨fun _ => by assumption, fun _ => rfl⟩, fun h => absurd h (by decide), fun h => by omega⟩
  · split
    · exact ⟨⟨fun h => absurd h (by decide), fun h => by omega⟩, fun _ => by assumption, fun _ => rfl⟩
    · exact ⟨⟨fun h => absurd h (by decide), fun h => absurd h (by assumption)⟩, fun h => absurd h (by decide), fun h => absurd h (by assumption)⟩
/-- an end at k as a side (u, v) -/
theorem at_side {k : Int} {e : EE} (hR : FR n I J V) (hS : FS n I J) (he : edOK n I J V e) : (atK I J V (crL n I J V) k e e.2.2.1 → side I J (MK n I J V k) e.1 e.2.1) ∧ (atK I J V (crL n I J V) k e e.2.2.2 → side I J (MK n I J V k) e.2.1 e.1) := by
  obtain ⟨e0, e1, e2, e3⟩ := he
  constructor
  · rintro ⟨q0, q1, q2, q3, q4⟩
    obtain ⟨h1, h2⟩ := end_low hS e0 e1 e2 e3 q0
    have := (end_side hR h1).1 h2
    unfold MK
    rw [q1, q2, q3, q4]; exact this
  · rintro ⟨q0, q1, q2, q3, q4⟩
    obtain ⟨h1, h2⟩ := end_high hS e0 e1 e2 e3 q0
    have := (end_side hR h1).2 h2
    unfold MK
    rw [q1, q2, q3, q4]; exact this
theorem up_uni {K : KS} {L : Int → Int} {α β x k : Int} {e e' : EE} (hK : K = crL n I J V) (hL : ∀ t, 2 * L t = α * I t + β * J t) (hR : FR n I J V) (hS : FS n I J) (he : edOK n I J V e) (he' : edOK n I J V e') : (upE I J V K L x k e → upE I J V K L x k e' → e.1 = e'.1 ∧ e.2.1 = e'.2.1) ∧ (dnE I J V K L x k e → dnE I J V K L x k e' → e.1 = e'.1 ∧ e.2.1 = e'.2.1) := by
  rw [hK]
  have s := at_side (k := k) hR hS he
  have s' := at_side (k := k) hR hS he'
  have o := he.2.1
  have o' := he'.2.1
  have up : ∀ {u v : Int}, L u ≤ x → x < L v → (xi I J α β (2 * x + 1) u < 0 ∧ 0 < xi I J α β (2 * x + 1) v) ∧ (0 < xi I J (-α) (-β) (-(2 * x + 1)) u ∧ xi I J (-α) (-β) (-(2 * x + 1)) v < 0) := fun {u v} h1 h2 => by
    have := hL u; have := hL v; unfold xi; rw [Int.neg_mul, Int.neg_mul, Int.neg_mul, Int.neg_mul]; omega
  have un : ∀ {u v u' v' : Int}, side I J (MK n I J V k) u v → side I J (MK n I J V k) u' v' → L u ≤ x → x < L v → L u' ≤ x → x < L v' → u = u' ∧ v = v' := fun h h' h1 h2 h3 h4 => side_uni h h' (up h1 h2).1.1 (up h1 h2).1.2 (up h3 h4).1.1 (up h3 h4).1.2
  have dn : ∀ {u v u' v' : Int}, side I J (MK n I J V k) v u → side I J (MK n I J V k) v' u' → L u ≤ x → x < L v → L u' ≤ x → x < L v' → v = v' ∧ u = u' := fun h h' h1 h2 h3 h4 => side_uni h h' (up h1 h2).2.2 (up h1 h2).2.1 (up h3 h4).2.2 (up h3 h4).2.1
  unfold upE dnE
  rw [lvC_1.1, lvC_1.1, lvC_1.2, lvC_1.2]
  constructor
  · rintro (⟨c1, c2, c3⟩ | ⟨c1, c2, c3⟩) (⟨d1, d2, d3⟩ | ⟨d1, d2, d3⟩)
    · exact un (s.1 c1) (s'.1 d1) c2 c3 d2 d3
    · have := un (s.1 c1) (s'.2 d1) c2 c3 d2 d3; omega
    · have := un (s.2 c1) (s'.1 d1) c2 c3 d2 d3; omega
    · have := un (s.2 c1) (s'.2 d1) c2 c3 d2 d3; omega
  · rintro (⟨c1, c2, c3⟩ | ⟨c1, c2, c3⟩) (⟨d1, d2, d3⟩ | ⟨d1, d2, d3⟩)
    · have := dn (s.1 c1) (s'.1 d1) c2 c3 d2 d3; omega
    · have := dn (s.1 c1) (s'.2 d1) c2 c3 d2 d3; omega
    · have := dn (s.2 c1) (s'.1 d1) c2 c3 d2 d3; omega
    · have := dn (s.2 c1) (s'.2 d1) c2 c3 d2 d3; omega
end CN
