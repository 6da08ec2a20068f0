/-! GEOMETRY: sums over the edges; at most 128 meets -/
def sm (φ : EE → Int) : List EE → Int
  | [] => 0
  | e :: L => φ e + sm φ L
def sumN (f : Int → Int) : Nat → Int
  | 0 => 0
  | m + 1 => sumN f m + f m
noncomputable def ind (P : Prop) : Int := @ite Int P (Classical.propDecidable P) 1 0
theorem ind_1 {P : Prop} (h : P) : ind P = 1 := @if_pos _ (Classical.propDecidable P) h _ _ _
theorem ind_0 {P : Prop} (h : ¬ P) : ind P = 0 := @if_neg _ (Classical.propDecidable P) h _ _ _
theorem ind_b (P : Prop) : 0 ≤ ind P ∧ ind P ≤ 1 := by
  rcases Classical.em P with h | h
  · rw [ind_1 h]; decide
  · rw [ind_0 h]; decide
theorem ind_iff {P Q : Prop} (h : P ↔ Q) : ind P = ind Q := by rw [propext h]
theorem sm_le {φ ψ : EE → Int} : ∀ (L : List EE), (∀ e ∈ L, φ e ≤ ψ e) → sm φ L ≤ sm ψ L
  | [], _ => Int.le_refl _
  | e :: L, h => by
    have h1 := h e List.mem_cons_self
    have h2 := sm_le L (fun e' q => h e' (List.mem_cons_of_mem _ q))
    show φ e + sm φ L ≤ ψ e + sm ψ L
    omega
theorem sm_eq {φ ψ : EE → Int} (L : List EE) (h : ∀ e ∈ L, φ e = ψ e) : sm φ L = sm ψ L :=
  Int.le_antisymm (sm_le L (fun e q => Int.le_of_eq (h e q))) (sm_le L (fun e q => Int.le_of_eq (h e q).symm))
theorem sm_add {φ ψ : EE → Int} : ∀ (L : List EE), sm (fun e => φ e + ψ e) L = sm φ L + sm ψ L
  | [] => rfl
  | e :: L => by
    show φ e + ψ e + sm (fun e => φ e + ψ e) L = φ e + sm φ L + (ψ e + sm ψ L)
    rw [sm_add L]; omega
theorem sm_mul {φ : EE → Int} {c : Int} : ∀ (L : List EE), sm (fun e => c * φ e) L = c * sm φ L
  | [] => (Int.mul_zero c).symm
  | e :: L => by
    show c * φ e + sm (fun e => c * φ e) L = c * (φ e + sm φ L)
    rw [sm_mul L, Int.mul_add]
theorem sm_sub {φ ψ : EE → Int} : ∀ (L : List EE), sm (fun e => φ e - ψ e) L = sm φ L - sm ψ L
  | [] => rfl
  | e :: L => by
    show φ e - ψ e + sm (fun e => φ e - ψ e) L = φ e + sm φ L - (ψ e + sm ψ L)
    rw [sm_sub L]; omega
theorem sm_z : ∀ (L : List EE), sm (fun _ => 0) L = 0
  | [] => rfl
  | e :: L => by show 0 + sm (fun _ => 0) L = 0; rw [sm_z L]; rfl
theorem sm_swap {φ : Int → EE → Int} (L : List EE) : ∀ (m : Nat), sm (fun e => sumN (fun x => φ x e) m) L = sumN (fun x => sm (φ x) L) m
  | 0 => sm_z L
  | m + 1 => by
    show sm (fun e => sumN (fun x => φ x e) m + φ m e) L = sumN (fun x => sm (φ x) L) m + sm (φ m) L
    rw [sm_add, sm_swap L m]
theorem sumN_le {f : Int → Int} {c : Int} : ∀ (m : Nat), (∀ x : Int, 0 ≤ x → x < m → f x ≤ c) → sumN f m ≤ m * c
  | 0, _ => by show (0 : Int) ≤ ((0 : Nat) : Int) * c; rw [show ((0 : Nat) : Int) = 0 from rfl, Int.zero_mul]; exact Int.le_refl _
  | m + 1, h => by
    have h1 := sumN_le m (fun x x0 x1 => h x x0 (by omega))
    have h2 := h m (by omega) (by omega)
    show sumN f m + f m ≤ ((m + 1 : Nat) : Int) * c
    rw [show ((m + 1 : Nat) : Int) = (m : Int) + 1 by omega, Int.add_mul, Int.one_mul]
    omega
theorem sumN_z {f : Int → Int} : ∀ (m : Nat), (∀ x : Int, 0 ≤ x → x < m → f x = 0) → sumN f m = 0
  | 0, _ => rfl
  | m + 1, h => by
    have h1 := sumN_z m (fun x x0 x1 => h x x0 (by omega))
    have h2 := h m (by omega) (by omega)
    show sumN f m + f m = 0
    omega
theorem sumN_1 {f : Int → Int} {k : Int} : ∀ (m : Nat), 0 ≤ k → k < m → (∀ x : Int, 0 ≤ x → x < m → x ≠ k → f x = 0) → sumN f m = f k
  | 0, h0, h1, _ => absurd h1 (by omega)
  | m + 1, h0, h1, h => by
    show sumN f m + f m = f k
    by_cases e : k = m
    · rw [sumN_z m (fun x x0 x1 => h x x0 (by omega) (by omega)), e]; omega
    · rw [sumN_1 m h0 (by omega) (fun x x0 x1 xk => h x x0 (by omega) xk), h m (by omega) (by omega) (fun q => e q.symm)]; omega
theorem sumN_mul {f : Int → Int} {c : Int} : ∀ (m : Nat), sumN (fun x => c * f x) m = c * sumN f m
  | 0 => (Int.mul_zero c).symm
  | m + 1 => by
    show sumN (fun x => c * f x) m + c * f m = c * (sumN f m + f m)
    rw [sumN_mul m, Int.mul_add]
theorem sumN_sub {f g : Int → Int} : ∀ (m : Nat), sumN (fun x => f x - g x) m = sumN f m - sumN g m
  | 0 => rfl
  | m + 1 => by
    show sumN (fun x => f x - g x) m + (f m - g m) = sumN f m + f m - (sumN g m + g m)
    rw [sumN_sub m]; omega
theorem sumN_eq {f g : Int → Int} : ∀ (m : Nat), (∀ x : Int, 0 ≤ x → x < m → f x = g x) → sumN f m = sumN g m
  | 0, _ => rfl
  | m + 1, h => by
    show sumN f m + f m = sumN g m + g m
    rw [sumN_eq m (fun x x0 x1 => h x x0 (by omega)), h m (by omega) (by omega)]
theorem sm_one {p : EE → Prop} : ∀ (L : List EE), L.Pairwise bef → (∀ e ∈ L, ∀ e' ∈ L, p e → p e' → e.1 = e'.1 ∧ e.2.1 = e'.2.1) → sm (fun e => ind (p e)) L = ind (∃ e ∈ L, p e)
  | [], _, _ => by
    show 0 = _
    rw [ind_0]
    rintro ⟨e, he, -⟩; cases he
  | e :: L, hp, hu => by
    obtain ⟨h1, h2⟩ := List.pairwise_cons.mp hp
    have ih := sm_one L h2 (fun f hf g hg => hu f (List.mem_cons_of_mem _ hf) g (List.mem_cons_of_mem _ hg))
    show ind (p e) + sm (fun e => ind (p e)) L = _
    rw [ih]
    rcases Classical.em (p e) with c | c
    · rw [ind_1 c, ind_0, ind_1 (P := ∃ f ∈ e :: L, p f) ⟨e, List.mem_cons_self, c⟩]
      · rfl
      · rintro ⟨f, hf, pf⟩
        have := hu e List.mem_cons_self f (List.mem_cons_of_mem _ hf) c pf
        have := h1 f hf
        unfold bef at this
        omega
    · rw [ind_0 c, Int.zero_add]
      apply ind_iff
      constructor
      · rintro ⟨f, hf, pf⟩; exact ⟨f, List.mem_cons_of_mem _ hf, pf⟩
      · rintro ⟨f, hf, pf⟩
        rcases List.mem_cons.mp hf with q | q
        · rw [q] at pf; exact absurd pf c
        · exact ⟨f, q, pf⟩
section TT
variable {n : Int} {I J V : Int → Int} {n2 : Int} {I2 J2 V2 : Int → Int}
theorem mt_cnt {Lb : List EE} : ∀ (L : List EE) (ms : MTS), (L.foldl (mmE n I J V n2 I2 J2 V2 Lb) ms).1 = ms.1 + sm (fun e => ((hitL n I J V n2 I2 J2 V2 e Lb).length : Int)) L
  | [], ms => (Int.add_zero _).symm
  | e :: L, ms => by
    show (L.foldl (mmE n I J V n2 I2 J2 V2 Lb) (Lb.foldl (mmO n I J V n2 I2 J2 V2 e) ms)).1 = ms.1 + (((hitL n I J V n2 I2 J2 V2 e Lb).length : Int) + sm (fun e => ((hitL n I J V n2 I2 J2 V2 e Lb).length : Int)) L)
    rw [mt_cnt L, mm_cnt Lb]; omega
theorem lv_sum {L : Int → Int} {e : EE} (h1 : 0 ≤ L e.1) (h2 : 0 ≤ L e.2.1) : ∀ (m : Nat), sumN (fun x => lvC L x e) m = min (m : Int) (L e.2.1) - min (m : Int) (L e.1)
  | 0 => by show (0 : Int) = _; omega
  | m + 1 => by
    show sumN (fun x => lvC L x e) m + lvC L m e = _
    rw [lv_sum h1 h2 m]
    unfold lvC
    split
    · omega
    · split <;> omega
theorem lvC_i (L : Int → Int) (x : Int) (e : EE) : lvC L x e = 1 ∨ lvC L x e = -1 ∨ lvC L x e = 0 := by
  unfold lvC
  split
  · exact Or.inl rfl
  · split
    · exact Or.inr (Or.inl rfl)
    · exact Or.inr (Or.inr rfl)
def upI (L : Int → Int) (x : Int) (e : EE) : Prop := (e.2.2.2 = -1 ∧ lvC L x e = 1) ∨ (e.2.2.1 = -1 ∧ lvC L x e = -1)
def dnI (L : Int → Int) (x : Int) (e : EE) : Prop := (e.2.2.1 = -1 ∧ lvC L x e = 1) ∨ (e.2.2.2 = -1 ∧ lvC L x e = -1)
theorem infE_uni {L : Int → Int} {α β x : Int} {e e' : EE} (hL : ∀ t, 2 * L t = α * I t + β * J t) (hR : FR n I J V) (hS : FS n I J) (he : edOK n I J V e) (he' : edOK n I J V e') : (upI L x e → upI L x e' → e.1 = e'.1 ∧ e.2.1 = e'.2.1) ∧ (dnI L x e → dnI L x e' → e.1 = e'.1 ∧ e.2.1 = e'.2.1) := by
  have s := inf_side hR he
  have s' := inf_side hR he'
  have up : ∀ u : Int, (xi I J α β (2 * x + 1) u < 0 ↔ L u ≤ x) ∧ (0 < xi I J α β (2 * x + 1) u ↔ x < L u) ∧ (xi I J (-α) (-β) (-(2 * x + 1)) u < 0 ↔ x < L u) ∧ (0 < xi I J (-α) (-β) (-(2 * x + 1)) u ↔ L u ≤ x) := fun u => by
    have := hL u; unfold xi; rw [Int.neg_mul, Int.neg_mul]; omega
  unfold upI dnI
  rw [lvC_1.1, lvC_1.1, lvC_1.2, lvC_1.2]
  have f : ∀ {u v u' v' : Int}, ((u = e.1 ∧ v = e.2.1) ∨ (u = e.2.1 ∧ v = e.1)) → ((u' = e'.1 ∧ v' = e'.2.1) ∨ (u' = e'.2.1 ∧ v' = e'.1)) → wsd n I J u v → wsd n I J u' v' → L u ≤ x → x < L v → L u' ≤ x → x < L v' → e.1 = e'.1 ∧ e.2.1 = e'.2.1 := fun {u v u' v'} a b c d h1 h2 h3 h4 => inf_uni hR hS he he' a b c d ((up u).1.mpr h1) ((up v).2.1.mpr h2) ((up u').1.mpr h3) ((up v').2.1.mpr h4)
  have g : ∀ {u v u' v' : Int}, ((u = e.1 ∧ v = e.2.1) ∨ (u = e.2.1 ∧ v = e.1)) → ((u' = e'.1 ∧ v' = e'.2.1) ∨ (u' = e'.2.1 ∧ v' = e'.1)) → wsd n I J u v → wsd n I J u' v' → x < L u → L v ≤ x → x < L u' → L v' ≤ x → e.1 = e'.1 ∧ e.2.1 = e'.2.1 := fun {u v u' v'} a b c d h1 h2 h3 h4 => inf_uni hR hS he he' a b c d ((up u).2.2.1.mpr h1) ((up v).2.2.2.mpr h2) ((up u').2.2.1.mpr h3) ((up v').2.2.2.mpr h4)
  constructor
  · rintro (⟨c1, c2, c3⟩ | ⟨c1, c2, c3⟩) (⟨d1, d2, d3⟩ | ⟨d1, d2, d3⟩)
    · exact f (Or.inl ⟨rfl, rfl⟩) (Or.inl ⟨rfl, rfl⟩) (s.2 c1) (s'.2 d1) c2 c3 d2 d3
    · exact f (Or.inl ⟨rfl, rfl⟩) (Or.inr ⟨rfl, rfl⟩) (s.2 c1) (s'.1 d1) c2 c3 d2 d3
    · exact f (Or.inr ⟨rfl, rfl⟩) (Or.inl ⟨rfl, rfl⟩) (s.1 c1) (s'.2 d1) c2 c3 d2 d3
    · exact f (Or.inr ⟨rfl, rfl⟩) (Or.inr ⟨rfl, rfl⟩) (s.1 c1) (s'.1 d1) c2 c3 d2 d3
  · rintro (⟨c1, c2, c3⟩ | ⟨c1, c2, c3⟩) (⟨d1, d2, d3⟩ | ⟨d1, d2, d3⟩)
    · exact g (Or.inr ⟨rfl, rfl⟩) (Or.inr ⟨rfl, rfl⟩) (s.1 c1) (s'.1 d1) c3 c2 d3 d2
    · exact g (Or.inr ⟨rfl, rfl⟩) (Or.inl ⟨rfl, rfl⟩) (s.1 c1) (s'.2 d1) c3 c2 d3 d2
    · exact g (Or.inl ⟨rfl, rfl⟩) (Or.inr ⟨rfl, rfl⟩) (s.2 c1) (s'.1 d1) c3 c2 d3 d2
    · exact g (Or.inl ⟨rfl, rfl⟩) (Or.inl ⟨rfl, rfl⟩) (s.2 c1) (s'.2 d1) c3 c2 d3 d2
/-- one level: what is gained over it is 8 at most -/
theorem level {L : Int → Int} {α β x : Int} {hF hL : EE → Int} {hK : Int → Int} (hl : ∀ t, 2 * L t = α * I t + β * J t) (hab : 0 < α * α + β * β) (hR : FR n I J V) (hS : FS n I J) (bF : ∀ e, 0 ≤ hF e ∧ hF e ≤ 8) (bL : ∀ e, 0 ≤ hL e ∧ hL e ≤ 8) (aF : ∀ e k, 0 ≤ k → k < (crL n I J V).1 → atK I J V (crL n I J V) k e e.2.2.1 → hF e = hK k) (aL : ∀ e k, 0 ≤ k → k < (crL n I J V).1 → atK I J V (crL n I J V) k e e.2.2.2 → hL e = hK k) : -8 ≤ sm (fun e => lvC L x e * (hF e - hL e)) (edL n I J V) ∧ sm (fun e => lvC L x e * (hF e - hL e)) (edL n I J V) ≤ 8 := by
  have hg := crL_good (I := I) (J := J) (V := V) hR.1
  have hok := edL_ok (I := I) (J := J) (V := V) hR.1
  have hpw := edL_pw (n := n) (I := I) (J := J) (V := V)
  have m0 : (((crL n I J V).1.toNat : Nat) : Int) = (crL n I J V).1 := by have := hg.1.1; omega
  have one : ∀ e ∈ edL n I J V, ∀ l, (l = e.2.2.1 ∨ l = e.2.2.2) → ∀ v : Int, (∀ k, 0 ≤ k → k < (crL n I J V).1 → atK I J V (crL n I J V) k e l → v = hK k) → sumN (fun k => hK k * ind (atK I J V (crL n I J V) k e l)) (crL n I J V).1.toNat = v - ind (l = -1) * v := by
    intro e he l hl v hv
    by_cases c : l = -1
    · rw [ind_1 c, Int.one_mul, Int.sub_self]
      exact sumN_z _ (fun k k0 k1 => by rw [ind_0 (fun q => q.1 c), Int.mul_zero])
    · rw [ind_0 c, Int.zero_mul, Int.sub_zero]
      obtain ⟨k, k0, k1, k2, k3, k4, k5⟩ := hg.2.2 _ _ _ _ ⟨e, he, l, hl, c, rfl, rfl, rfl, rfl⟩
      have ak : atK I J V (crL n I J V) k e l := ⟨c, k2, k3, k4, k5⟩
      rw [sumN_1 (k := k) _ k0 (by omega) (fun x x0 x1 xk => ?_), ind_1 ak, Int.mul_one]
      · exact (hv k k0 k1 ak).symm
      · rw [ind_0 (fun q => xk ?_), Int.mul_zero]
        obtain ⟨-, q2, q3, q4, q5⟩ := q
        exact srt_inj hg.1 x0 (by omega) k0 k1 (q2.trans k2.symm) (q3.trans k3.symm) (q4.trans k4.symm) (q5.trans k5.symm)
  have split : ∀ e ∈ edL n I J V, lvC L x e * (hF e - hL e) = sumN (fun k => hK k * (ind (upE I J V (crL n I J V) L x k e) - ind (dnE I J V (crL n I J V) L x k e))) (crL n I J V).1.toNat + lvC L x e * (ind (e.2.2.1 = -1) * hF e - ind (e.2.2.2 = -1) * hL e) := by
    intro e he
    have s1 := one e he _ (Or.inl rfl) (hF e) (aF e)
    have s2 := one e he _ (Or.inr rfl) (hL e) (aL e)
    have pt : ∀ k : Int, 0 ≤ k → k < (((crL n I J V).1.toNat : Nat) : Int) → hK k * (ind (upE I J V (crL n I J V) L x k e) - ind (dnE I J V (crL n I J V) L x k e)) = lvC L x e * (hK k * ind (atK I J V (crL n I J V) k e e.2.2.1) - hK k * ind (atK I J V (crL n I J V) k e e.2.2.2)) := by
      intro k _ _
      rcases lvC_i L x e with c | c | c
      · rw [ind_iff (P := upE I J V (crL n I J V) L x k e) (Q := atK I J V (crL n I J V) k e e.2.2.1) ⟨fun q => (by rcases q with q | q; exact q.1; have := q.2; omega), fun q => Or.inl ⟨q, c⟩⟩, ind_iff (P := dnE I J V (crL n I J V) L x k e) (Q := atK I J V (crL n I J V) k e e.2.2.2) ⟨fun q => (by rcases q with q | q; have := q.2; omega; exact q.1), fun q => Or.inr ⟨q, c⟩⟩, c, Int.one_mul, Int.mul_sub]
      · rw [ind_iff (P := upE I J V (crL n I J V) L x k e) (Q := atK I J V (crL n I J V) k e e.2.2.2) ⟨fun q => (by rcases q with q | q; have := q.2; omega; exact q.1), fun q => Or.inr ⟨q, c⟩⟩, ind_iff (P := dnE I J V (crL n I J V) L x k e) (Q := atK I J V (crL n I J V) k e e.2.2.1) ⟨fun q => (by rcases q with q | q; exact q.1; have := q.2; omega), fun q => Or.inl ⟨q, c⟩⟩, c, Int.mul_sub]; omega
      · rw [ind_0 (P := upE I J V (crL n I J V) L x k e) (fun q => by rcases q with q | q <;> (have := q.2; omega)), ind_0 (P := dnE I J V (crL n I J V) L x k e) (fun q => by rcases q with q | q <;> (have := q.2; omega)), c, Int.sub_self, Int.mul_zero, Int.zero_mul]
    rw [sumN_eq _ pt, sumN_mul, sumN_sub, s1, s2, ← Int.mul_add]
    congr 1
    omega
  rw [sm_eq _ split, sm_add]
  have z : sm (fun e => sumN (fun k => hK k * (ind (upE I J V (crL n I J V) L x k e) - ind (dnE I J V (crL n I J V) L x k e))) (crL n I J V).1.toNat) (edL n I J V) = 0 := by
    rw [sm_swap (φ := fun k e => hK k * (ind (upE I J V (crL n I J V) L x k e) - ind (dnE I J V (crL n I J V) L x k e)))]
    refine sumN_z _ (fun k k0 k1 => ?_)
    rw [sm_mul, sm_sub, sm_one _ hpw (fun e he e' he' => (up_uni rfl hl hR hS (hok e he) (hok e' he')).1), sm_one _ hpw (fun e he e' he' => (up_uni rfl hl hR hS (hok e he) (hok e' he')).2), ind_iff (Q := ∃ e ∈ edL n I J V, dnE I J V (crL n I J V) L x k e) ⟨fun ⟨e, he, q⟩ => (up_ex hl hab hR hS ⟨k0, by omega⟩ (hok e he)).1 q, fun ⟨e, he, q⟩ => (up_ex hl hab hR hS ⟨k0, by omega⟩ (hok e he)).2 q⟩, Int.sub_self, Int.mul_zero]
  rw [z, Int.zero_add]
  have bd : ∀ e ∈ edL n I J V, lvC L x e * (ind (e.2.2.1 = -1) * hF e - ind (e.2.2.2 = -1) * hL e) ≤ 8 * ind (dnI L x e) ∧ -8 * ind (upI L x e) ≤ lvC L x e * (ind (e.2.2.1 = -1) * hF e - ind (e.2.2.2 = -1) * hL e) := by
    intro e _
    have b1 := bF e
    have b2 := bL e
    have mm : ∀ (P : Prop) (v : Int), 0 ≤ v → v ≤ 8 → 0 ≤ ind P * v ∧ ind P * v ≤ 8 * ind P := by
      intro P v v0 v1
      rcases Classical.em P with h | h
      · rw [ind_1 h]; omega
      · rw [ind_0 h, Int.zero_mul]; omega
    have m1 := mm (e.2.2.1 = -1) (hF e) b1.1 b1.2
    have m2 := mm (e.2.2.2 = -1) (hL e) b2.1 b2.2
    rcases lvC_i L x e with c | c | c
    · rw [ind_iff (P := dnI L x e) (Q := e.2.2.1 = -1) ⟨fun q => (by rcases q with q | q; exact q.1; have := q.2; omega), fun q => Or.inl ⟨q, c⟩⟩, ind_iff (P := upI L x e) (Q := e.2.2.2 = -1) ⟨fun q => (by rcases q with q | q; exact q.1; have := q.2; omega), fun q => Or.inl ⟨q, c⟩⟩, c]; omega
    · rw [ind_iff (P := dnI L x e) (Q := e.2.2.2 = -1) ⟨fun q => (by rcases q with q | q; have := q.2; omega; exact q.1), fun q => Or.inr ⟨q, c⟩⟩, ind_iff (P := upI L x e) (Q := e.2.2.1 = -1) ⟨fun q => (by rcases q with q | q; have := q.2; omega; exact q.1), fun q => Or.inr ⟨q, c⟩⟩, c]; omega
    · rw [c, Int.zero_mul]
      have := ind_b (dnI L x e)
      have := ind_b (upI L x e)
      omega
  have t1 := sm_le _ (fun e he => (bd e he).1)
  have t2 := sm_le _ (fun e he => (bd e he).2)
  rw [sm_mul, sm_one _ hpw (fun e he e' he' => (infE_uni hl hR hS (hok e he) (hok e' he')).2)] at t1
  rw [sm_mul, sm_one _ hpw (fun e he e' he' => (infE_uni hl hR hS (hok e he) (hok e' he')).1)] at t2
  have i1 := ind_b (∃ e ∈ edL n I J V, dnI L x e)
  have i2 := ind_b (∃ e ∈ edL n I J V, upI L x e)
  omega
end TT
