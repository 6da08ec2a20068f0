/-! GEOMETRY: the meets of both sides, laid one after another -/
section MN
variable {n : Int} {I J V : Int → Int} {n2 : Int} {I2 J2 V2 : Int → Int}
/-- both sides' facts of one edge of the first curve against a list of the other's -/
def PF (n : Int) (I J V : Int → Int) (n2 : Int) (I2 J2 V2 : Int → Int) (s : CS) (i : Int) (e : EE) (s2 : CS) (j : Int) (o : EE) : Prop := (lyB I J V s i I2 J2 V2 s2 j ↔ badP I J V I2 J2 V2 e o) ∧ ∀ ms : MTS, (mmO n I J V n2 I2 J2 V2 e ms o).1 ≤ 128 → lyS I J V s i I2 J2 V2 s2 j ms = mmO n I J V n2 I2 J2 V2 e ms o
theorem layI_bad {s s2 : CS} {i : Int} {e : EE} : ∀ (R : List EE) (f : Nat) (ms : MTS), (∀ (k : Nat) o, R[k]? = some o → PF n I J V n2 I2 J2 V2 s i e s2 ((f + k : Nat) : Int) o) → (∃ o ∈ R, badP I J V I2 J2 V2 e o) → layI I J V s i I2 J2 V2 s2 R.length (f : Int) ms = none
  | [], _, _, _, h => by obtain ⟨o, ho, -⟩ := h; cases ho
  | o :: R, f, ms, hp, h => by
    have p0 := hp 0 o rfl
    have p0 : PF n I J V n2 I2 J2 V2 s i e s2 (f : Int) o := p0
    show layI I J V s i I2 J2 V2 s2 (R.length + 1) (f : Int) ms = none
    unfold layI
    by_cases c : lyB I J V s i I2 J2 V2 s2 (f : Int)
    · rw [if_pos c]
    · rw [if_neg c]
      have e1 : (f : Int) + 1 = ((f + 1 : Nat) : Int) := by omega
      rw [e1]
      refine layI_bad R (f + 1) _ (fun k o' hk => by
        have := hp (k + 1) o' hk
        rw [show f + 1 + k = f + (k + 1) by omega]; exact this) ?_
      obtain ⟨o', ho', hb⟩ := h
      rcases List.mem_cons.mp ho' with q | q
      · rw [q] at hb; exact absurd (p0.1.mpr hb) c
      · exact ⟨o', q, hb⟩
theorem layI_ok {s s2 : CS} {i : Int} {e : EE} : ∀ (R : List EE) (f : Nat) (ms : MTS), (∀ (k : Nat) o, R[k]? = some o → PF n I J V n2 I2 J2 V2 s i e s2 ((f + k : Nat) : Int) o) → (∀ o ∈ R, ¬ badP I J V I2 J2 V2 e o) → (R.foldl (mmO n I J V n2 I2 J2 V2 e) ms).1 ≤ 128 → layI I J V s i I2 J2 V2 s2 R.length (f : Int) ms = some (R.foldl (mmO n I J V n2 I2 J2 V2 e) ms)
  | [], _, _, _, _, _ => rfl
  | o :: R, f, ms, hp, h, hc => by
    have p0 := hp 0 o rfl
    have p0 : PF n I J V n2 I2 J2 V2 s i e s2 (f : Int) o := p0
    show layI I J V s i I2 J2 V2 s2 (R.length + 1) (f : Int) ms = some (R.foldl (mmO n I J V n2 I2 J2 V2 e) (mmO n I J V n2 I2 J2 V2 e ms o))
    have hc : (R.foldl (mmO n I J V n2 I2 J2 V2 e) (mmO n I J V n2 I2 J2 V2 e ms o)).1 ≤ 128 := hc
    unfold layI
    have c : ¬ lyB I J V s i I2 J2 V2 s2 (f : Int) := fun q => h o List.mem_cons_self (p0.1.mp q)
    rw [if_neg c, p0.2 ms (Int.le_trans (mmF_len R _) hc)]
    have e1 : (f : Int) + 1 = ((f + 1 : Nat) : Int) := by omega
    rw [e1]
    exact layI_ok R (f + 1) _ (fun k o' hk => by
        have := hp (k + 1) o' hk
        rw [show f + 1 + k = f + (k + 1) by omega]; exact this) (fun o' ho' => h o' (List.mem_cons_of_mem _ ho')) hc
theorem layO_bad {s s2 : CS} {Lb : List EE} (hl : (cNE s2).toNat = Lb.length) : ∀ (R : List EE) (f : Nat) (ms : MTS), (∀ (i : Nat) e, R[i]? = some e → ∀ (k : Nat) o, Lb[k]? = some o → PF n I J V n2 I2 J2 V2 s ((f + i : Nat) : Int) e s2 (k : Int) o) → (∃ e ∈ R, ∃ o ∈ Lb, badP I J V I2 J2 V2 e o) → layO I J V s I2 J2 V2 s2 R.length (f : Int) ms = none
  | [], _, _, _, h => by obtain ⟨o, ho, -⟩ := h; cases ho
  | e :: R, f, ms, hp, h => by
    have p0 := hp 0 e rfl
    have p0 : ∀ (k : Nat) o, Lb[k]? = some o → PF n I J V n2 I2 J2 V2 s (f : Int) e s2 ((0 + k : Nat) : Int) o := fun k o hk => by rw [Nat.zero_add]; exact p0 k o hk
    show (layI I J V s (f : Int) I2 J2 V2 s2 (cNE s2).toNat 0 ms).bind (fun ms2 => layO I J V s I2 J2 V2 s2 R.length ((f : Int) + 1) ms2) = none
    rw [hl]
    by_cases c : ∃ o ∈ Lb, badP I J V I2 J2 V2 e o
    · have := layI_bad (ms := ms) Lb 0 p0 c
      have e0 : ((0 : Nat) : Int) = 0 := rfl
      rw [e0] at this
      rw [this]; rfl
    · cases hI : layI I J V s (f : Int) I2 J2 V2 s2 Lb.length 0 ms with
      | none => rfl
      | some ms2 =>
        show layO I J V s I2 J2 V2 s2 R.length ((f : Int) + 1) ms2 = none
        have e1 : (f : Int) + 1 = ((f + 1 : Nat) : Int) := by omega
        rw [e1]
        refine layO_bad hl R (f + 1) _ (fun i e' hi => by
          have := hp (i + 1) e' hi
          rw [show f + 1 + i = f + (i + 1) by omega]; exact this) ?_
        obtain ⟨e', he', o, ho, hb⟩ := h
        rcases List.mem_cons.mp he' with q | q
        · rw [q] at hb; exact absurd ⟨o, ho, hb⟩ c
        · exact ⟨e', q, o, ho, hb⟩
theorem layO_ok {s s2 : CS} {Lb : List EE} (hl : (cNE s2).toNat = Lb.length) : ∀ (R : List EE) (f : Nat) (ms : MTS), (∀ (i : Nat) e, R[i]? = some e → ∀ (k : Nat) o, Lb[k]? = some o → PF n I J V n2 I2 J2 V2 s ((f + i : Nat) : Int) e s2 (k : Int) o) → (∀ e ∈ R, ∀ o ∈ Lb, ¬ badP I J V I2 J2 V2 e o) → (R.foldl (mmE n I J V n2 I2 J2 V2 Lb) ms).1 ≤ 128 → layO I J V s I2 J2 V2 s2 R.length (f : Int) ms = some (R.foldl (mmE n I J V n2 I2 J2 V2 Lb) ms)
  | [], _, _, _, _, _ => rfl
  | e :: R, f, ms, hp, h, hc => by
    have p0 := hp 0 e rfl
    have p0 : ∀ (k : Nat) o, Lb[k]? = some o → PF n I J V n2 I2 J2 V2 s (f : Int) e s2 ((0 + k : Nat) : Int) o := fun k o hk => by rw [Nat.zero_add]; exact p0 k o hk
    show (layI I J V s (f : Int) I2 J2 V2 s2 (cNE s2).toNat 0 ms).bind (fun ms2 => layO I J V s I2 J2 V2 s2 R.length ((f : Int) + 1) ms2) = some (R.foldl (mmE n I J V n2 I2 J2 V2 Lb) (mmE n I J V n2 I2 J2 V2 Lb ms e))
    have hc : (R.foldl (mmE n I J V n2 I2 J2 V2 Lb) (mmE n I J V n2 I2 J2 V2 Lb ms e)).1 ≤ 128 := hc
    have := layI_ok (ms := ms) Lb 0 p0 (h e List.mem_cons_self) (Int.le_trans (mmG_len R _) hc)
    have e0 : ((0 : Nat) : Int) = 0 := rfl
    rw [e0] at this
    rw [hl, this]
    show layO I J V s I2 J2 V2 s2 R.length ((f : Int) + 1) (mmE n I J V n2 I2 J2 V2 Lb ms e) = _
    have e1 : (f : Int) + 1 = ((f + 1 : Nat) : Int) := by omega
    rw [e1]
    exact layO_ok hl R (f + 1) _ (fun i e' hi => by
      have := hp (i + 1) e' hi
      rw [show f + 1 + i = f + (i + 1) by omega]; exact this) (fun e' he' => h e' (List.mem_cons_of_mem _ he')) hc
theorem wqF_z {e : EE} : ∀ (L : List EE), L.foldl (wqO I J V I2 J2 V2 e) 0 = 0
  | [] => rfl
  | o :: L => by show L.foldl (wqO I J V I2 J2 V2 e) (wqO I J V I2 J2 V2 e 0 o) = 0; rw [wqO_z]; exact wqF_z L
theorem wqF_1 {e : EE} : ∀ (L : List EE) (x : Int), (∃ o ∈ L, badP I J V I2 J2 V2 e o) → L.foldl (wqO I J V I2 J2 V2 e) x = 0
  | [], _, h => by obtain ⟨o, ho, -⟩ := h; cases ho
  | o :: L, x, h => by
    show L.foldl (wqO I J V I2 J2 V2 e) (wqO I J V I2 J2 V2 e x o) = 0
    by_cases c : badP I J V I2 J2 V2 e o
    · rw [wqO_1 c]; exact wqF_z L
    · rw [wqO_0 c]
      obtain ⟨o', ho', hb⟩ := h
      rcases List.mem_cons.mp ho' with q | q
      · rw [q] at hb; exact absurd hb c
      · exact wqF_1 L x ⟨o', q, hb⟩
theorem wqF_0 {e : EE} : ∀ (L : List EE) (x : Int), (∀ o ∈ L, ¬ badP I J V I2 J2 V2 e o) → L.foldl (wqO I J V I2 J2 V2 e) x = x
  | [], _, _ => rfl
  | o :: L, x, h => by
    show L.foldl (wqO I J V I2 J2 V2 e) (wqO I J V I2 J2 V2 e x o) = x
    rw [wqO_0 (h o List.mem_cons_self)]
    exact wqF_0 L x (fun o' ho' => h o' (List.mem_cons_of_mem _ ho'))
theorem wel_z {Lb : List EE} : ∀ (L : List EE), L.foldl (wqE I J V I2 J2 V2 Lb) 0 = 0
  | [] => rfl
  | e :: L => by show L.foldl (wqE I J V I2 J2 V2 Lb) (Lb.foldl (wqO I J V I2 J2 V2 e) 0) = 0; rw [wqF_z]; exact wel_z L
theorem wel_1 {Lb : List EE} : ∀ (L : List EE) (x : Int), (∃ e ∈ L, ∃ o ∈ Lb, badP I J V I2 J2 V2 e o) → L.foldl (wqE I J V I2 J2 V2 Lb) x = 0
  | [], _, h => by obtain ⟨o, ho, -⟩ := h; cases ho
  | e :: L, x, h => by
    show L.foldl (wqE I J V I2 J2 V2 Lb) (Lb.foldl (wqO I J V I2 J2 V2 e) x) = 0
    by_cases c : ∃ o ∈ Lb, badP I J V I2 J2 V2 e o
    · rw [wqF_1 Lb x c]; exact wel_z L
    · obtain ⟨e', he', o, ho, hb⟩ := h
      rcases List.mem_cons.mp he' with q | q
      · rw [q] at hb; exact absurd ⟨o, ho, hb⟩ c
      · exact wel_1 L _ ⟨e', q, o, ho, hb⟩
theorem wel_0 {Lb : List EE} : ∀ (L : List EE) (x : Int), (∀ e ∈ L, ∀ o ∈ Lb, ¬ badP I J V I2 J2 V2 e o) → L.foldl (wqE I J V I2 J2 V2 Lb) x = x
  | [], _, _ => rfl
  | e :: L, x, h => by
    show L.foldl (wqE I J V I2 J2 V2 Lb) (Lb.foldl (wqO I J V I2 J2 V2 e) x) = x
    rw [wqF_0 Lb x (h e List.mem_cons_self)]
    exact wel_0 L x (fun e' he' => h e' (List.mem_cons_of_mem _ he'))
def ctI (s : MTS) : Prop := 0 ≤ s.1 ∧ ∀ t, 0 ≤ t → t < s.1 → 0 ≤ s.2.2.2.2.2 t ∧ s.2.2.2.2.2 t ≤ 128
theorem ctI_O (hR : FR n I J V) (hR2 : FR n2 I2 J2 V2) {e o : EE} (he : edOK n I J V e) (ho : edOK n2 I2 J2 V2 o) {ms : MTS} (h : ctI ms) : ctI (mmO n I J V n2 I2 J2 V2 e ms o) := by
  by_cases k : mHit n I J V n2 I2 J2 V2 e o
  · rw [mmO_1 k]
    obtain ⟨h0, h1⟩ := h
    obtain ⟨e1, e2, e3, -⟩ := he
    obtain ⟨o1, o2, o3, -⟩ := ho
    obtain ⟨a1, a2, a3⟩ := dif_b hR ⟨e1, Int.lt_trans e2 e3⟩ ⟨Int.le_of_lt (Int.lt_of_le_of_lt e1 e2), e3⟩
    obtain ⟨b1', b2', b3'⟩ := dif_b hR2 ⟨o1, Int.lt_trans o2 o3⟩ ⟨Int.le_of_lt (Int.lt_of_le_of_lt o1 o2), o3⟩
    obtain ⟨c1, -, -⟩ := pr_b a1 a2 a3 b1' b2' b3'
    have ax : 0 ≤ ab1 (xD I J e I2 J2 o) ∧ ab1 (xD I J e I2 J2 o) ≤ 128 := by unfold ab1 xD; split <;> omega
    refine ⟨by show 0 ≤ ms.1 + 1; omega, fun t t0 t1 => ?_⟩
    have t1 : t < ms.1 + 1 := t1
    have aa := skS_b ms.1 ms.2.1 ms.2.2.1 ms.2.2.2.1 ms.2.2.2.2.1 (mqX I J V e I2 J2 V2 o) (mqXD I J V e I2 J2 V2 o) (mqY I J V e I2 J2 V2 o) (mqYD I J V e I2 J2 V2 o) h0
    show 0 ≤ insF ms.2.2.2.2.2 (notA ms (mqX I J V e I2 J2 V2 o) (mqXD I J V e I2 J2 V2 o) (mqY I J V e I2 J2 V2 o) (mqYD I J V e I2 J2 V2 o)) (ab1 (xD I J e I2 J2 o)) t ∧ insF ms.2.2.2.2.2 (notA ms (mqX I J V e I2 J2 V2 o) (mqXD I J V e I2 J2 V2 o) (mqY I J V e I2 J2 V2 o) (mqYD I J V e I2 J2 V2 o)) (ab1 (xD I J e I2 J2 o)) t ≤ 128
    unfold notA
    generalize skS ms.1 ms.2.1 ms.2.2.1 ms.2.2.2.1 ms.2.2.2.2.1 (mqX I J V e I2 J2 V2 o) (mqXD I J V e I2 J2 V2 o) (mqY I J V e I2 J2 V2 o) (mqYD I J V e I2 J2 V2 o) = a at *
    unfold insF
    split
    · exact h1 t t0 (by omega)
    · split
      · exact ax
      · exact h1 (t - 1) (by omega) (by omega)
  · rw [mmO_0 k]; exact h
theorem ctI_F (hR : FR n I J V) (hR2 : FR n2 I2 J2 V2) {e : EE} (he : edOK n I J V e) : ∀ (L : List EE), (∀ o ∈ L, edOK n2 I2 J2 V2 o) → ∀ (ms : MTS), ctI ms → ctI (L.foldl (mmO n I J V n2 I2 J2 V2 e) ms)
  | [], _, _, h => h
  | o :: L, ho, ms, h => ctI_F hR hR2 he L (fun o' q => ho o' (List.mem_cons_of_mem _ q)) _ (ctI_O hR hR2 he (ho o List.mem_cons_self) h)
theorem ctI_E (hR : FR n I J V) (hR2 : FR n2 I2 J2 V2) {Lb : List EE} (hb : ∀ o ∈ Lb, edOK n2 I2 J2 V2 o) : ∀ (L : List EE), (∀ e ∈ L, edOK n I J V e) → ∀ (ms : MTS), ctI ms → ctI (L.foldl (mmE n I J V n2 I2 J2 V2 Lb) ms)
  | [], _, _, h => h
  | e :: L, he, ms, h => ctI_E hR hR2 hb L (fun e' q => he e' (List.mem_cons_of_mem _ q)) _ (ctI_F hR hR2 (he e List.mem_cons_self) Lb hb ms h)
theorem tch_eq (h : drOK n I J V) : tchS n2 I2 J2 V2 (cM (drwS n I J V)) (cX (drwS n I J V)) (cXD (drwS n I J V)) (cY (drwS n I J V)) (cYD (drwS n I J V)) = clS n I J V n2 I2 J2 V2 := by
  obtain ⟨-, h2, h3, -⟩ := h
  unfold clS tchS
  rw [h2, srch_congr (p := fun k => decide (2 ≤ countS n2 I2 J2 V2 (cX (drwS n I J V) k) (cXD (drwS n I J V) k) (cY (drwS n I J V) k) (cYD (drwS n I J V) k))) (q := fun k => decide (2 ≤ countS n2 I2 J2 V2 ((crL n I J V).2.1 k) ((crL n I J V).2.2.1 k) ((crL n I J V).2.2.2.1 k) ((crL n I J V).2.2.2.2.1 k))) _ _ (fun k k0 k1 => by
    obtain ⟨⟨b1, b2, b3, b4⟩, -⟩ := h3 k k0 (by omega)
    rw [b1, b2, b3, b4])]
/-- what is left: how many meets there are -/
def CAPM : Prop := ∀ (n : Int) (I J V : Int → Int) (n2 : Int) (I2 J2 V2 : Int → Int), FR n I J V → FS n I J → FR n2 I2 J2 V2 → FS n2 I2 J2 → clS n I J V n2 I2 J2 V2 = 0 → clS n2 I2 J2 V2 n I J V = 0 → (meetsM n I J V n2 I2 J2 V2 (edL n I J V) (edL n2 I2 J2 V2)).1 ≤ 128
end MN
theorem MEa_ok (hcap : CAPM) {a : FA} (h : FOK a) : MEa a := by
  intro f g f0 f1 g0 g1
  obtain ⟨hR, hS, -⟩ := h.2 f f0 f1
  obtain ⟨hR2, hS2, -⟩ := h.2 g g0 g1
  have hd := DRa_ok h f f0 f1
  have hd2 := DRa_ok h g g0 g1
  unfold layA sMt laySd
  rw [tch_eq hd, tch_eq hd2]
  show (_ = none ∧ _) ∨ _
  have cl1 := cls_b (gN a f) (gI a f) (gJ a f) (gV a f) (gN a g) (gI a g) (gJ a g) (gV a g)
  have cl2 := cls_b (gN a g) (gI a g) (gJ a g) (gV a g) (gN a f) (gI a f) (gJ a f) (gV a f)
  by_cases c : clS (gN a f) (gI a f) (gJ a f) (gV a f) (gN a g) (gI a g) (gJ a g) (gV a g) = 0 ∧ clS (gN a g) (gI a g) (gJ a g) (gV a g) (gN a f) (gI a f) (gJ a f) (gV a f) = 0
  · have pf : ∀ (i : Nat) e, (edA a f)[i]? = some e → ∀ (k : Nat) o, (edA a g)[k]? = some o → PF (gN a f) (gI a f) (gJ a f) (gV a f) (gN a g) (gI a g) (gJ a g) (gV a g) (drwS (gN a f) (gI a f) (gJ a f) (gV a f)) ((0 + i : Nat) : Int) e (drwS (gN a g) (gI a g) (gJ a g) (gV a g)) (k : Int) o := by
      intro i e hi k o hk
      rw [Nat.zero_add]
      have he := edL_ok hR.1 e (List.mem_of_getElem? hi)
      have ho := edL_ok hR2.1 o (List.mem_of_getElem? hk)
      exact ⟨lyB_iff hR hS hR2 hS2 he ho (dE_ok hd hi) (dE_ok hd2 hk) (clE_ok hd c.1 hi) (clE_ok hd2 c.2 hk), fun ms hm => lyS_mm hR hS hR2 hS2 he ho (dE_ok hd hi) (dE_ok hd2 hk) hm⟩
    have hl1 : (cNE (drwS (gN a f) (gI a f) (gJ a f) (gV a f))).toNat = (edA a f).length := by rw [hd.1]; unfold edA; omega
    have hl2 : (cNE (drwS (gN a g) (gI a g) (gJ a g) (gV a g))).toNat = (edA a g).length := by rw [hd2.1]; unfold edA; omega
    rw [if_neg (by omega), hl1]
    have e0 : ((0 : Nat) : Int) = 0 := rfl
    by_cases b : ∃ e ∈ edA a f, ∃ o ∈ edA a g, badP (gI a f) (gJ a f) (gV a f) (gI a g) (gJ a g) (gV a g) e o
    · left
      have t := layO_bad (ms := m00) hl2 (edA a f) 0 pf b
      rw [e0] at t
      refine ⟨t, ?_⟩
      have wz : weA a f g = 0 := wel_1 (edA a f) 1 b
      rw [if_neg (fun q => q.2.2 wz)]
    · right
      have nb : ∀ e ∈ edA a f, ∀ o ∈ edA a g, ¬ badP (gI a f) (gJ a f) (gV a f) (gI a g) (gJ a g) (gV a g) e o := fun e he o ho q => b ⟨e, he, o, ho, q⟩
      have t := layO_ok (ms := m00) hl2 (edA a f) 0 pf nb (hcap _ _ _ _ _ _ _ _ hR hS hR2 hS2 c.1 c.2)
      rw [e0] at t
      have wz : weA a f g = 1 := wel_0 (edA a f) 1 nb
      refine ⟨meA a f g, meA a f g, t, ?_, rfl, fun t t0 t1 => ⟨⟨rfl, rfl, rfl, rfl, rfl⟩, ?_⟩⟩
      · rw [if_pos ⟨c.1, c.2, by rw [wz]; decide⟩]
      · have := (ctI_E hR hR2 (edL_ok hR2.1) (edA a f) (edL_ok hR.1) m00 ⟨Int.le_refl _, fun t t0 t1 => absurd t1 (by show ¬ t < 0; omega)⟩).2 t t0 t1
        unfold meA meetsM inI
        unfold edA at this ⊢
        omega
  · left
    have cc : ¬ (clA a f g = 0 ∧ clA a g f = 0 ∧ weA a f g ≠ 0) := fun q => c ⟨q.1, q.2.1⟩
    rw [if_pos (by omega), if_neg cc]
    exact ⟨rfl, rfl⟩
theorem M8a_ok (hcap : CAPM) {a : FA} (h : FOK a) : M8a a := by
  intro f g f0 f1 g0 g1 c1 c2
  obtain ⟨hR, hS, -⟩ := h.2 f f0 f1
  obtain ⟨hR2, hS2, -⟩ := h.2 g g0 g1
  have := hcap _ _ _ _ _ _ _ _ hR hS hR2 hS2 c1 c2
  unfold meA edA
  omega
theorem CPa_ok {a : FA} (h : FOK a) : CPa a := by
  intro f f0 f1
  obtain ⟨hR, hS, -⟩ := h.2 f f0 f1
  have := (cap_le hR hS).1
  unfold edA
  omega
theorem maths_of (hcap : CAPM) : MATHS := fun _ h => ⟨CPa_ok h, IDa_ok h, RGa_ok h, AMa_ok h, DRa_ok h, MEa_ok hcap h, M8a_ok hcap h⟩
