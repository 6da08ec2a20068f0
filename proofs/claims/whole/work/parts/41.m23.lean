/-! CROSSINGS: two edges -/
def pE (I : Int → Int) (s : CS) (e : Int) : Int := I (cLA s e) - I (cFO s e)
def lE (V : Int → Int) (s : CS) (e : Int) : Int := V (cFO s e) - V (cLA s e)
def crsE (I J : Int → Int) (s : CS) (e : Int) (I2 J2 : Int → Int) (s2 : CS) (f : Int) : Int := pE I s e * pE J2 s2 f - pE J s e * pE I2 s2 f
def ovlE (I J : Int → Int) (s : CS) (e : Int) (I2 J2 : Int → Int) (s2 : CS) (f : Int) : Int := if bgnS (pE I s e) (pE J s e) (cFI s e) (cLS s2 f) (cX s) (cXD s) (cY s) (cYD s) (cX s2) (cXD s2) (cY s2) (cYD s2) = 1 ∧ bgnS (pE I2 s2 f) (pE J2 s2 f) (cFI s2 f) (cLS s e) (cX s2) (cXD s2) (cY s2) (cYD s2) (cX s) (cXD s) (cY s) (cYD s) = 1 then 1 else 0
abbrev lyB (I J V : Int → Int) (s : CS) (e : Int) (I2 J2 V2 : Int → Int) (s2 : CS) (f : Int) : Prop := crsE I J s e I2 J2 s2 f = 0 ∧ (pE I s e * lE V2 s2 f = pE I2 s2 f * lE V s e ∧ pE J s e * lE V2 s2 f = pE J2 s2 f * lE V s e) ∧ ovlE I J s e I2 J2 s2 f = 1
def lyX (I J V : Int → Int) (s : CS) (e : Int) (I2 J2 V2 : Int → Int) (s2 : CS) (f : Int) : Int := rdA (lE V s e * pE J2 s2 f - lE V2 s2 f * pE J s e) (crsE I J s e I2 J2 s2 f)
def lyXD (I J V : Int → Int) (s : CS) (e : Int) (I2 J2 V2 : Int → Int) (s2 : CS) (f : Int) : Int := rdB (lE V s e * pE J2 s2 f - lE V2 s2 f * pE J s e) (crsE I J s e I2 J2 s2 f)
def lyY (I J V : Int → Int) (s : CS) (e : Int) (I2 J2 V2 : Int → Int) (s2 : CS) (f : Int) : Int := rdA (pE I s e * lE V2 s2 f - pE I2 s2 f * lE V s e) (crsE I J s e I2 J2 s2 f)
def lyYD (I J V : Int → Int) (s : CS) (e : Int) (I2 J2 V2 : Int → Int) (s2 : CS) (f : Int) : Int := rdB (pE I s e * lE V2 s2 f - pE I2 s2 f * lE V s e) (crsE I J s e I2 J2 s2 f)
def hl1 (I J V : Int → Int) (s : CS) (e : Int) (I2 J2 V2 : Int → Int) (s2 : CS) (f : Int) : Int := hldS (pE I s e) (pE J s e) (lyX I J V s e I2 J2 V2 s2 f) (lyXD I J V s e I2 J2 V2 s2 f) (lyY I J V s e I2 J2 V2 s2 f) (lyYD I J V s e I2 J2 V2 s2 f) (cFI s e) (cLS s e) (cX s) (cXD s) (cY s) (cYD s)
def hl2 (I J V : Int → Int) (s : CS) (e : Int) (I2 J2 V2 : Int → Int) (s2 : CS) (f : Int) : Int := hldS (pE I2 s2 f) (pE J2 s2 f) (lyX I J V s e I2 J2 V2 s2 f) (lyXD I J V s e I2 J2 V2 s2 f) (lyY I J V s e I2 J2 V2 s2 f) (lyYD I J V s e I2 J2 V2 s2 f) (cFI s2 f) (cLS s2 f) (cX s2) (cXD s2) (cY s2) (cYD s2)
abbrev lyH (I J V : Int → Int) (s : CS) (e : Int) (I2 J2 V2 : Int → Int) (s2 : CS) (f : Int) : Prop := crsE I J s e I2 J2 s2 f ≠ 0 ∧ hl1 I J V s e I2 J2 V2 s2 f = 1 ∧ hl2 I J V s e I2 J2 V2 s2 f = 1
def lyS (I J V : Int → Int) (s : CS) (e : Int) (I2 J2 V2 : Int → Int) (s2 : CS) (f : Int) (ms : MTS) : MTS := if lyH I J V s e I2 J2 V2 s2 f then notS ms (lyX I J V s e I2 J2 V2 s2 f) (lyXD I J V s e I2 J2 V2 s2 f) (lyY I J V s e I2 J2 V2 s2 f) (lyYD I J V s e I2 J2 V2 s2 f) (if 0 ≤ crsE I J s e I2 J2 s2 f then crsE I J s e I2 J2 s2 f else -(crsE I J s e I2 J2 s2 f)) else ms
theorem MH_fr {zI zL zL' : ZM} {s : MTS} (h : MH zI zL s) (hz : ∀ c, 15 ≤ c → c ≤ 18 → zL' c = zL c) : MH zI zL' s := ⟨PsH_fr h.1 rfl (fun c k0 k1 => hz c (by omega) (by omega)), h.2⟩
theorem pE_b {S : SS} {zI zL : ZM} {h : Nat} {n : Int} {I J V : Int → Int} {s : CS} (hC : CvT S zI zL h n I J V s) {e : Int} (h0 : 0 ≤ e) (h1 : e < cNE s) : (-8 ≤ pE I s e ∧ pE I s e ≤ 8) ∧ (-8 ≤ pE J s e ∧ pE J s e ≤ 8) ∧ (-400 ≤ lE V s e ∧ lE V s e ≤ 400) := by
  obtain ⟨-, -, hR, ⟨-, -, hed⟩, -, -, -⟩ := hC
  obtain ⟨-, q5, q6, q7, q8, -⟩ := hed e h0 h1
  have ra := hR.2.2 _ q5 q6
  have rb := hR.2.2 _ q7 q8
  unfold pE lE; omega
theorem ovlE_b (I J : Int → Int) (s : CS) (e : Int) (I2 J2 : Int → Int) (s2 : CS) (f : Int) : ovlE I J s e I2 J2 s2 f = 0 ∨ ovlE I J s e I2 J2 s2 f = 1 := by unfold ovlE; split; exact Or.inr rfl; exact Or.inl rfl
theorem CvT_far {S : SS} {zI zL zL' : ZM} {h : Nat} {n : Int} {I J V : Int → Int} {s : CS} (hC : CvT S zI zL h n I J V s) (h26 : 26 ≤ h) (hz : ∀ c, c ≠ 20 → c ≠ 21 → c ≠ 22 → zL' c = zL c) : CvT S zI zL' h n I J V s := CvH_fr hC (fun c _ _ => rfl) (fun c k0 k1 => hz c (by omega) (by omega) (by omega))
set_option maxHeartbeats 4000000 in
theorem v_layT {X : PX} {d : Nat} {S : SS} {zI zL : ZM} {Q : PQ} (hX : isCr S) {h : Nat} {n : Int} {I J V : Int → Int} {s : CS} (hC : CvT S zI zL h n I J V s) {h2 : Nat} {n2 : Int} {I2 J2 V2 : Int → Int} {s2 : CS} (hD : CvT S zI zL h2 n2 I2 J2 V2 s2) {e f : Int} (h0 : 0 ≤ e) (h1 : e < cNE s) (f0 : 0 ≤ f) (f1 : f < cNE s2) (h26 : 26 ≤ h) (h262 : 26 ≤ h2) {ms : MTS} (hM : MH zI zL ms) {x xd y yd ct c5 c6 c7 c8 c9 c10 : Int} {w12 : Option PV} (hpn : PH zL 20 x xd y yd) (hPB : PB x xd y yd) (hct : -128 ≤ ct ∧ ct ≤ 128) (hQ0 : ¬ (hldS (I (cLA s e) - I (cFO s e)) (J (cLA s e) - J (cFO s e)) x xd y yd (cFI s e) (cLS s e) (cX s) (cXD s) (cY s) (cYD s) = 1 ∧ hldS (I2 (cLA s2 f) - I2 (cFO s2 f)) (J2 (cLA s2 f) - J2 (cFO s2 f)) x xd y yd (cFI s2 f) (cLS s2 f) (cX s2) (cXD s2) (cY s2) (cYD s2) = 1) → ∀ z2, (∀ c, c ≠ 21 → c ≠ 22 → z2 c = zL c) → Q (some (pI 1)) S zI z2) (hQ1 : hldS (I (cLA s e) - I (cFO s e)) (J (cLA s e) - J (cFO s e)) x xd y yd (cFI s e) (cLS s e) (cX s) (cXD s) (cY s) (cYD s) = 1 → hldS (I2 (cLA s2 f) - I2 (cFO s2 f)) (J2 (cLA s2 f) - J2 (cFO s2 f)) x xd y yd (cFI s2 f) (cLS s2 f) (cX s2) (cXD s2) (cY s2) (cYD s2) = 1 → ∀ z z2, frXI z zI → frXL z2 zL → MH z z2 (notS ms x xd y yd (if 0 ≤ ct then ct else -ct)) → Q (some (pI 1)) S z z2) : Run X (d + 4) c_Crossing_layEdges 86 [some (pR 13), some (pR (h + 4)), some (pI e), some (pR (h2 + 4)), some (pI f), some (pI c5), some (pI c6), some (pI c7), some (pI c8), some (pI c9), some (pI c10), some (pI ct), w12] [] S zI zL 0 0 Q := by
  have xob := hX.1
  have ho1 := hldS_b (I (cLA s e) - I (cFO s e)) (J (cLA s e) - J (cFO s e)) x xd y yd (cFI s e) (cLS s e) (cX s) (cXD s) (cY s) (cYD s)
  have ho2 := hldS_b (I2 (cLA s2 f) - I2 (cFO s2 f)) (J2 (cLA s2 f) - J2 (cFO s2 f)) x xd y yd (cFI s2 f) (cLS s2 f) (cX s2) (cXD s2) (cY s2) (cYD s2)
  have wh1 := fun (z z3 : ZM) (Q' : PQ) (hCn : CvT S z z3 h n I J V s) (hp : PH z3 20 x xd y yd) => w_holds (X := X) (d := d + 1) (Q := Q') hX hCn h0 h1 hp hPB h26
  have wh2 := fun (z z3 : ZM) (Q' : PQ) (hCn : CvT S z z3 h2 n2 I2 J2 V2 s2) (hp : PH z3 20 x xd y yd) => w_holds (X := X) (d := d + 1) (Q := Q') hX hCn f0 f1 hp hPB h262
  obtain ⟨b1, hb1⟩ : ∃ b, b = hldS (I (cLA s e) - I (cFO s e)) (J (cLA s e) - J (cFO s e)) x xd y yd (cFI s e) (cLS s e) (cX s) (cXD s) (cY s) (cYD s) := ⟨_, rfl⟩
  obtain ⟨b2, hb2⟩ : ∃ b, b = hldS (I2 (cLA s2 f) - I2 (cFO s2 f)) (J2 (cLA s2 f) - J2 (cFO s2 f)) x xd y yd (cFI s2 f) (cLS s2 f) (cX s2) (cXD s2) (cY s2) (cYD s2) := ⟨_, rfl⟩
  rw [← hb1] at hQ0 hQ1 ho1
  rw [← hb2] at hQ0 hQ1 ho2
  simp only [← hb1] at wh1
  simp only [← hb2] at wh2
  clear hb1 hb2
  refine r_aload_n rfl rfl ?_
  refine r_aload_n rfl rfl ?_
  refine r_iload_n rfl rfl ?_
  refine r_cV3 rfl xob (Nat.le_of_ble_eq_true rfl) rfl rfl (wh1 zI zL _ hC hpn (fun z3 f3 => ?_))
  refine r_if_eq rfl (by unfold inI; omega) (fun h90 => ?_) (fun h90 => ?_)
  · skip
    refine r_iconst rfl ?_
    refine r_zret rfl (by first | exact Or.inl rfl | exact Or.inr rfl) ?_
    exact hQ0 (fun q => by omega) z3 f3
  · skip
    refine r_aload_n rfl rfl ?_
    refine r_aload_n rfl rfl ?_
    refine r_iload rfl rfl ?_
    refine r_cV3 rfl xob (Nat.le_of_ble_eq_true rfl) rfl rfl (wh2 zI z3 _ (CvT_far hD h262 (fun c _ k0 k1 => f3 c k0 k1)) (by unfold PH; rw [f3 20 (by decide) (by decide)]; exact hpn) (fun z4 f4 => ?_))
    refine r_if_eq rfl (by unfold inI; omega) (fun h95 => ?_) (fun h95 => ?_)
    · skip
      refine r_iconst rfl ?_
      refine r_zret rfl (by first | exact Or.inl rfl | exact Or.inr rfl) ?_
      exact hQ0 (fun q => by omega) z4 (fun c k0 k1 => (f4 c k0 k1).trans (f3 c k0 k1))
    · skip
      refine r_aload_n rfl rfl ?_
      refine r_iload rfl rfl ?_
      refine r_cS1 rfl (by decide) (Nat.le_of_ble_eq_true rfl) rfl rfl (w_abs (by unfold inI; omega) ?_)
      refine r_cV2 rfl xob (Nat.le_of_ble_eq_true rfl) rfl rfl (w_note hX (MH_fr (zL := zL) hM (fun c k0 k1 => (f4 c (by omega) (by omega)).trans (f3 c (by omega) (by omega)))) (by unfold PH; rw [f4 20 (by decide) (by decide), f3 20 (by decide) (by decide)]; exact hpn) hPB (fun z5 z6 f5 f6 hM6 => ?_))
      refine r_iconst rfl ?_
      refine r_zret rfl (by first | exact Or.inl rfl | exact Or.inr rfl) ?_
      exact hQ1 (by omega) (by omega) z5 z6 f5 (fun c hc => (f6 c (by omega)).trans ((f4 c (by omega) (by omega)).trans (f3 c (by omega) (by omega)))) hM6
set_option maxHeartbeats 4000000 in
theorem v_layM {X : PX} {d : Nat} {S : SS} {zI zL : ZM} {Q : PQ} (xob : ob S 13 0) (xp0 : ob S 20 4) (x2 : S.2 13 2 = some 20) {h h2 : Nat} {e f p q c r s t : Int} (bp : -8 ≤ p ∧ p ≤ 8) (bq : -8 ≤ q ∧ q ≤ 8) (bc : -400 ≤ c ∧ c ≤ 400) (br : -8 ≤ r ∧ r ≤ 8) (bs : -8 ≤ s ∧ s ≤ 8) (bt : -400 ≤ t ∧ t ≤ 400) (hno : p * s - q * r = 0 → ¬ (p * t = r * c ∧ q * t = s * c) → Q (some (pI 1)) S zI zL) (hov : p * s - q * r = 0 → (p * t = r * c ∧ q * t = s * c) → wpM X (d + 4) fCrossing_overlap [pR 13, pR (h + 4), pI e, pR (h2 + 4), pI f] S zI zL (fun R S2 z z2 => Run X (d + 4) c_Crossing_layEdges 60 [some (pR 13), some (pR (h + 4)), some (pI e), some (pR (h2 + 4)), some (pI f), some (pI p), some (pI q), some (pI c), some (pI r), some (pI s), some (pI t), some (pI (p * s - q * r)), some (pI 1)] (R.toList ++ []) S2 z z2 0 0 Q)) (htl : p * s - q * r ≠ 0 → (-128 ≤ p * s - q * r ∧ p * s - q * r ≤ 128) → (-6400 ≤ c * s - t * q ∧ c * s - t * q ≤ 6400) → (-6400 ≤ p * t - r * c ∧ p * t - r * c ≤ 6400) → ∀ z3, (∀ c, c ≠ 20 → z3 c = zL c) → PH z3 20 (rdA (c * s - t * q) (p * s - q * r)) (rdB (c * s - t * q) (p * s - q * r)) (rdA (p * t - r * c) (p * s - q * r)) (rdB (p * t - r * c) (p * s - q * r)) → Run X (d + 4) c_Crossing_layEdges 86 [some (pR 13), some (pR (h + 4)), some (pI e), some (pR (h2 + 4)), some (pI f), some (pI p), some (pI q), some (pI c), some (pI r), some (pI s), some (pI t), some (pI (p * s - q * r)), none] [] S zI z3 0 0 Q) : Run X (d + 4) c_Crossing_layEdges 24 [some (pR 13), some (pR (h + 4)), some (pI e), some (pR (h2 + 4)), some (pI f), some (pI p), some (pI q), some (pI c), some (pI r), some (pI s), some (pI t), none, none] [] S zI zL 0 0 Q := by
  have m1 := mb bp.1 bp.2 bs.1 bs.2
  have m2 := mb bq.1 bq.2 br.1 br.2
  have m3 := mb bp.1 bp.2 bt.1 bt.2
  have m4 := mb br.1 br.2 bc.1 bc.2
  have m5 := mb bq.1 bq.2 bt.1 bt.2
  have m6 := mb bs.1 bs.2 bc.1 bc.2
  have m7 := mb bc.1 bc.2 bs.1 bs.2
  have m8 := mb bt.1 bt.2 bq.1 bq.2
  refine r_iload rfl rfl ?_
  refine r_iload rfl rfl ?_
  refine r_imul rfl ?_
  refine r_iload rfl rfl ?_
  refine r_iload rfl rfl ?_
  refine r_imul rfl ?_
  refine r_isub rfl ?_
  refine r_istore rfl (Nat.le_of_ble_eq_true rfl) ?_
  refine r_iload rfl rfl ?_
  refine r_if_ne rfl (by unfold inI; omega) (fun h33 => ?_) (fun h33 => ?_)
  · skip
    refine r_aload_n rfl rfl ?_
    refine r_getR rfl xob (by assumption) ?_
    refine r_iload rfl rfl ?_
    refine r_iload rfl rfl ?_
    refine r_imul rfl ?_
    refine r_iload rfl rfl ?_
    refine r_iload rfl rfl ?_
    refine r_imul rfl ?_
    refine r_isub rfl ?_
    refine r_i2l rfl (by unfold inI; omega) ?_
    refine r_iload rfl rfl ?_
    refine r_iload rfl rfl ?_
    refine r_imul rfl ?_
    refine r_iload rfl rfl ?_
    refine r_iload rfl rfl ?_
    refine r_imul rfl ?_
    refine r_isub rfl ?_
    refine r_i2l rfl (by unfold inI; omega) ?_
    refine r_iload rfl rfl ?_
    refine r_i2l rfl (by unfold inI; omega) ?_
    refine r_cV4 rfl xp0 (Nat.le_of_ble_eq_true rfl) rfl rfl (w_reduce xp0 (by omega) (by omega) (by omega) ?_)
    exact htl h33 (by omega) (by omega) (by omega) _ (fun c hc => by rw [zput_row hc, zput_row hc, zput_row hc, zput_row hc]) ph_put
  · skip
    refine r_iload rfl rfl ?_
    refine r_iload rfl rfl ?_
    refine r_imul rfl ?_
    refine r_iload rfl rfl ?_
    refine r_iload rfl rfl ?_
    refine r_imul rfl ?_
    refine r_icmp_ne rfl (by unfold inI; omega) (by unfold inI; omega) (fun h40 => ?_) (fun h40 => ?_)
    · skip
      refine r_iconst rfl ?_
      refine r_istore rfl (Nat.le_of_ble_eq_true rfl) ?_
      refine r_iload rfl rfl ?_
      refine r_if_eq rfl (by unfold inI; omega) (fun h53 => ?_) (fun h53 => ?_)
      · skip
        refine r_iconst rfl ?_
        refine r_goto rfl ?_
        refine r_zret rfl (by first | exact Or.inl rfl | exact Or.inr rfl) ?_
        exact hno h33 (fun q => by omega)
      · skip
        exact absurd rfl h53
    · skip
      refine r_iload rfl rfl ?_
      refine r_iload rfl rfl ?_
      refine r_imul rfl ?_
      refine r_iload rfl rfl ?_
      refine r_iload rfl rfl ?_
      refine r_imul rfl ?_
      refine r_icmp_ne rfl (by unfold inI; omega) (by unfold inI; omega) (fun h47 => ?_) (fun h47 => ?_)
      · skip
        refine r_iconst rfl ?_
        refine r_istore rfl (Nat.le_of_ble_eq_true rfl) ?_
        refine r_iload rfl rfl ?_
        refine r_if_eq rfl (by unfold inI; omega) (fun h53 => ?_) (fun h53 => ?_)
        · skip
          refine r_iconst rfl ?_
          refine r_goto rfl ?_
          refine r_zret rfl (by first | exact Or.inl rfl | exact Or.inr rfl) ?_
          exact hno h33 (fun q => by omega)
        · skip
          exact absurd rfl h53
      · skip
        refine r_iconst rfl ?_
        refine r_goto rfl ?_
        refine r_istore rfl (Nat.le_of_ble_eq_true rfl) ?_
        refine r_iload rfl rfl ?_
        refine r_if_eq rfl (by unfold inI; omega) (fun h53 => ?_) (fun h53 => ?_)
        · skip
          exact absurd h53 (by decide)
        · skip
          refine r_aload_n rfl rfl ?_
          refine r_aload_n rfl rfl ?_
          refine r_iload_n rfl rfl ?_
          refine r_aload_n rfl rfl ?_
          refine r_iload rfl rfl ?_
          refine r_cV5 rfl xob (Nat.le_of_ble_eq_true rfl) rfl rfl (hov h33 ⟨by omega, by omega⟩)
set_option maxHeartbeats 4000000 in
theorem w_layEdges {X : PX} {d : Nat} {S : SS} {zI zL : ZM} {Q : PQ} (hX : isCr S) {h : Nat} {n : Int} {I J V : Int → Int} {s : CS} (hC : CvT S zI zL h n I J V s) {h2 : Nat} {n2 : Int} {I2 J2 V2 : Int → Int} {s2 : CS} (hD : CvT S zI zL h2 n2 I2 J2 V2 s2) {e f : Int} (h0 : 0 ≤ e) (h1 : e < cNE s) (f0 : 0 ≤ f) (f1 : f < cNE s2) (h26 : 26 ≤ h) (h262 : 26 ≤ h2) {ms : MTS} (hM : MH zI zL ms) (hQ0 : lyB I J V s e I2 J2 V2 s2 f → ∀ z2, frXL z2 zL → Q (some (pI 0)) S zI z2) (hQ1 : ¬ lyB I J V s e I2 J2 V2 s2 f → ∀ z z2, frXI z zI → frXL z2 zL → MH z z2 (lyS I J V s e I2 J2 V2 s2 f ms) → Q (some (pI 1)) S z z2) : wpM X (d + 5) fCrossing_layEdges [pR 13, pR (h + 4), pI e, pR (h2 + 4), pI f] S zI zL Q := by
  have hobc : ob S (h + 4) 1 := hC.1.1
  have hobc2 : ob S (h2 + 4) 1 := hD.1.1
  have pb := pE_b hC h0 h1
  have pb2 := pE_b hD f0 f1
  have ovb := ovlE_b I J s e I2 J2 s2 f
  have hmain : Run X (d + 4) c_Crossing_layEdges 24 [some (pR 13), some (pR (h + 4)), some (pI e), some (pR (h2 + 4)), some (pI f), some (pI (pE I s e)), some (pI (pE J s e)), some (pI (lE V s e)), some (pI (pE I2 s2 f)), some (pI (pE J2 s2 f)), some (pI (lE V2 s2 f)), none, none] [] S zI zL 0 0 Q := by
    refine v_layM hX.1 hX.2.2.2.1.1 hX.2.2.2.2.2.2.1 pb.1 pb.2.1 pb.2.2 pb2.1 pb2.2.1 pb2.2.2 (fun q0 q1 => ?_) (fun q0 q1 => ?_) (fun q0 qa qb qc z3 hz hp => ?_)
    · exact hQ1 (fun q => q1 q.2.1) zI zL (fun c _ _ => rfl) (fun c hc => rfl) (by unfold lyS; rw [if_neg (fun q => q.1 q0)]; exact hM)
    · refine w_overlap hX hC hD h0 h1 f0 f1 h26 h262 (fun z3 f3 => ?_)
      change Run X (d + 4) c_Crossing_layEdges 60 _ (pI (ovlE I J s e I2 J2 s2 f) :: []) S zI z3 0 0 Q
      refine r_if_ne rfl (by unfold inI; omega) (fun h60 => ?_) (fun h60 => ?_)
      · refine r_iconst rfl ?_
        refine r_zret rfl (Or.inl rfl) ?_
        exact hQ0 ⟨q0, q1, by omega⟩ z3 (fun c hc => f3 c (by omega) (by omega))
      · refine r_iconst rfl ?_
        refine r_goto rfl ?_
        refine r_zret rfl (Or.inr rfl) ?_
        exact hQ1 (fun q => by have := q.2.2; omega) zI z3 (fun c _ _ => rfl) (fun c hc => f3 c (by omega) (by omega)) (by unfold lyS; rw [if_neg (fun q => q.1 q0)]; exact MH_fr hM (fun c k0 k1 => f3 c (by omega) (by omega)))
    · have r1 := rd_b qb qa q0
      have r2 := rd_b qc qa q0
      refine v_layT hX (CvT_far hC h26 (fun c k _ _ => hz c k)) (CvT_far hD h262 (fun c k _ _ => hz c k)) h0 h1 f0 f1 h26 h262 (MH_fr hM (fun c k0 k1 => hz c (by omega))) hp ⟨⟨r1.1.1, r1.1.2, r1.2.1, r1.2.2⟩, r2.1.1, r2.1.2, r2.2.1, r2.2.2⟩ qa (fun k z4 f4 => ?_) (fun k1 k2 z4 z5 f4 f5 hM2 => ?_)
      · exact hQ1 (fun q => q0 q.1) zI z4 (fun c _ _ => rfl) (fun c hc => (f4 c (by omega) (by omega)).trans (hz c (by omega))) (by unfold lyS; rw [if_neg (fun q => k q.2)]; exact MH_fr hM (fun c k0 k1 => (f4 c (by omega) (by omega)).trans (hz c (by omega))))
      · exact hQ1 (fun q => q0 q.1) z4 z5 f4 (fun c hc => (f5 c hc).trans (hz c (by omega))) (by unfold lyS; rw [if_pos ⟨q0, k1, k2⟩]; exact hM2)
  refine wp_in (C := c_Crossing_layEdges) (ls := [some (pR 13), some (pR (h + 4)), some (pI e), some (pR (h2 + 4)), some (pI f), none, none, none, none, none, none, none, none]) rfl rfl rfl rfl rfl ?_
  refine r_aload_n rfl rfl ?_
  refine r_iload_n rfl rfl ?_
  refine r_cV2 rfl hobc (Nat.le_of_ble_eq_true rfl) rfl rfl (w_acrossI hC h0 h1 ?_)
  refine r_istore rfl (Nat.le_of_ble_eq_true rfl) ?_
  refine r_aload_n rfl rfl ?_
  refine r_iload_n rfl rfl ?_
  refine r_cV2 rfl hobc (Nat.le_of_ble_eq_true rfl) rfl rfl (w_acrossJ hC h0 h1 ?_)
  refine r_istore rfl (Nat.le_of_ble_eq_true rfl) ?_
  refine r_aload_n rfl rfl ?_
  refine r_iload_n rfl rfl ?_
  refine r_cV2 rfl hobc (Nat.le_of_ble_eq_true rfl) rfl rfl (w_level hC h0 h1 ?_)
  refine r_istore rfl (Nat.le_of_ble_eq_true rfl) ?_
  refine r_aload_n rfl rfl ?_
  refine r_iload rfl rfl ?_
  refine r_cV2 rfl hobc2 (Nat.le_of_ble_eq_true rfl) rfl rfl (w_acrossI hD f0 f1 ?_)
  refine r_istore rfl (Nat.le_of_ble_eq_true rfl) ?_
  refine r_aload_n rfl rfl ?_
  refine r_iload rfl rfl ?_
  refine r_cV2 rfl hobc2 (Nat.le_of_ble_eq_true rfl) rfl rfl (w_acrossJ hD f0 f1 ?_)
  refine r_istore rfl (Nat.le_of_ble_eq_true rfl) ?_
  refine r_aload_n rfl rfl ?_
  refine r_iload rfl rfl ?_
  refine r_cV2 rfl hobc2 (Nat.le_of_ble_eq_true rfl) rfl rfl (w_level hD f0 f1 ?_)
  refine r_istore rfl (Nat.le_of_ble_eq_true rfl) ?_
  exact hmain
def layI (I J V : Int → Int) (s : CS) (e : Int) (I2 J2 V2 : Int → Int) (s2 : CS) : Nat → Int → MTS → Option MTS
  | 0, _, ms => some ms
  | k + 1, f, ms => if lyB I J V s e I2 J2 V2 s2 f then none else layI I J V s e I2 J2 V2 s2 k (f + 1) (lyS I J V s e I2 J2 V2 s2 f ms)
def layO (I J V : Int → Int) (s : CS) (I2 J2 V2 : Int → Int) (s2 : CS) : Nat → Int → MTS → Option MTS
  | 0, _, ms => some ms
  | k + 1, e, ms => (layI I J V s e I2 J2 V2 s2 (cNE s2).toNat 0 ms).bind (fun ms2 => layO I J V s I2 J2 V2 s2 k (e + 1) ms2)
theorem layI_b {I J V : Int → Int} {s : CS} {e : Int} {I2 J2 V2 : Int → Int} {s2 : CS} {n f : Int} {ms : MTS} (h : f < n) (hb : lyB I J V s e I2 J2 V2 s2 f) : layI I J V s e I2 J2 V2 s2 (n - f).toNat f ms = none := by rw [show (n - f).toNat = (n - (f + 1)).toNat + 1 by omega]; unfold layI; rw [if_pos hb]
theorem layI_s {I J V : Int → Int} {s : CS} {e : Int} {I2 J2 V2 : Int → Int} {s2 : CS} {n f : Int} {ms : MTS} (h : f < n) (hb : ¬ lyB I J V s e I2 J2 V2 s2 f) : layI I J V s e I2 J2 V2 s2 (n - f).toNat f ms = layI I J V s e I2 J2 V2 s2 (n - (f + 1)).toNat (f + 1) (lyS I J V s e I2 J2 V2 s2 f ms) := by
  conv => lhs; rw [show (n - f).toNat = (n - (f + 1)).toNat + 1 by omega]
  conv => lhs; unfold layI
  rw [if_neg hb]
theorem layI_e {I J V : Int → Int} {s : CS} {e : Int} {I2 J2 V2 : Int → Int} {s2 : CS} {n f : Int} {ms : MTS} (h : n ≤ f) : layI I J V s e I2 J2 V2 s2 (n - f).toNat f ms = some ms := by rw [show (n - f).toNat = 0 by omega]; rfl
theorem layO_s {I J V : Int → Int} {s : CS} {I2 J2 V2 : Int → Int} {s2 : CS} {n e : Int} {ms : MTS} (h : e < n) : layO I J V s I2 J2 V2 s2 (n - e).toNat e ms = (layI I J V s e I2 J2 V2 s2 (cNE s2).toNat 0 ms).bind (fun ms2 => layO I J V s I2 J2 V2 s2 (n - (e + 1)).toNat (e + 1) ms2) := by
  conv => lhs; rw [show (n - e).toNat = (n - (e + 1)).toNat + 1 by omega]
  rfl
theorem layO_e {I J V : Int → Int} {s : CS} {I2 J2 V2 : Int → Int} {s2 : CS} {n e : Int} {ms : MTS} (h : n ≤ e) : layO I J V s I2 J2 V2 s2 (n - e).toNat e ms = some ms := by rw [show (n - e).toNat = 0 by omega]; rfl
def m00 : MTS := (0, fun _ => 0, fun _ => 0, fun _ => 0, fun _ => 0, fun _ => 0)
/-- THE MEETS of two curves; none: they don't cross well -/
def laySd (n : Int) (I J V : Int → Int) (s : CS) (n2 : Int) (I2 J2 V2 : Int → Int) (s2 : CS) : Option MTS := if tchS n2 I2 J2 V2 (cM s) (cX s) (cXD s) (cY s) (cYD s) = 1 ∨ tchS n I J V (cM s2) (cX s2) (cXD s2) (cY s2) (cYD s2) = 1 then none else layO I J V s I2 J2 V2 s2 (cNE s).toNat 0 m00
theorem tchS_b (n2 : Int) (I2 J2 V2 : Int → Int) (m : Int) (X XD Y YD : Int → Int) : tchS n2 I2 J2 V2 m X XD Y YD = 0 ∨ tchS n2 I2 J2 V2 m X XD Y YD = 1 := by unfold tchS; split; exact Or.inl rfl; exact Or.inr rfl
theorem CvT_frX {S : SS} {zI zL z z2 : ZM} {h : Nat} {n : Int} {I J V : Int → Int} {s : CS} (hC : CvT S zI zL h n I J V s) (h26 : 26 ≤ h) (h1 : frXI z zI) (h2 : frXL z2 zL) : CvT S z z2 h n I J V s := CvH_fr hC (fun c k0 k1 => h1 c (by omega) (by omega)) (fun c k0 k1 => h2 c (by omega))
theorem FH_frX {zI z : ZM} {h : Nat} {n : Int} {I J V : Int → Int} (hT : FH zI h n I J V) (h26 : 26 ≤ h) (h1 : frXI z zI) : FH z h n I J V := FH_fr hT (fun c k0 k1 => h1 c (by omega) (by omega))
theorem frXI_t {z z2 z3 : ZM} (h1 : frXI z2 z) (h2 : frXI z3 z2) : frXI z3 z := fun c k0 k1 => (h2 c k0 k1).trans (h1 c k0 k1)
theorem frXL_t {z z2 z3 : ZM} (h1 : frXL z2 z) (h2 : frXL z3 z2) : frXL z3 z := fun c k0 => (h2 c k0).trans (h1 c k0)
set_option maxHeartbeats 4000000 in
theorem w_lay {X : PX} {d : Nat} {S : SS} {zI zL : ZM} {Q : PQ} (hX : isCr S) {h : Nat} {n : Int} {I J V : Int → Int} {s : CS} (hC : CvT S zI zL h n I J V s) {h2 : Nat} {n2 : Int} {I2 J2 V2 : Int → Int} {s2 : CS} (hD : CvT S zI zL h2 n2 I2 J2 V2 s2) (h26 : 26 ≤ h) (h262 : 26 ≤ h2) (h128 : zI 14 4 = 128) (hQ0 : laySd n I J V s n2 I2 J2 V2 s2 = none → ∀ z z2, frXI z zI → frXL z2 zL → z 14 4 = 128 → Q (some (pI 0)) S z z2) (hQ1 : ∀ ms, laySd n I J V s n2 I2 J2 V2 s2 = some ms → ∀ z z2, frXI z zI → frXL z2 zL → MH z z2 ms → Q (some (pI 1)) S z z2) : wpM X (d + 6) fCrossing_lay [pR 13, pR (h + 4), pR (h2 + 4)] S zI zL Q := by
  have xob := hX.1
  have x14 : ob S 14 5 := hX.2.1.1
  have r0 := hX.2.2.2.2.1
  have hobc : ob S (h + 4) 1 := hC.1.1
  have hobc2 : ob S (h2 + 4) 1 := hD.1.1
  have g0 : S.2 (h + 4) 0 = some h := hC.1.2.2.2.2.2.1.1
  have g02 : S.2 (h2 + 4) 0 = some h2 := hD.1.2.2.2.2.2.1.1
  have ne0 := hC.2.2.2.1.2.1
  have ne02 := hD.2.2.2.1.2.1
  have e8 : ∀ (z z2 : ZM), CvT S z z2 h n I J V s → z (h + 4) 8 = cNE s := fun z z2 q => q.2.2.2.1.1
  have e82 : ∀ (z z2 : ZM), CvT S z z2 h2 n2 I2 J2 V2 s2 → z (h2 + 4) 8 = cNE s2 := fun z z2 q => q.2.2.2.1.1
  have tb1 := tchS_b n2 I2 J2 V2 (cM s) (cX s) (cXD s) (cY s) (cYD s)
  have tb2 := tchS_b n I J V (cM s2) (cX s2) (cXD s2) (cY s2) (cYD s2)
  have body : ¬ (tchS n2 I2 J2 V2 (cM s) (cX s) (cXD s) (cY s) (cYD s) = 1 ∨ tchS n I J V (cM s2) (cX s2) (cXD s2) (cY s2) (cYD s2) = 1) → ∀ e : Int, e ≤ cNE s → 0 ≤ e → ∀ (z z2 : ZM) (ms : MTS), frXI z zI → frXL z2 zL → MH z z2 ms →  layO I J V s I2 J2 V2 s2 (cNE s - e).toNat e ms = layO I J V s I2 J2 V2 s2 (cNE s).toNat 0 m00 → ∀ y : Option PV, (∀ q : Int, y ≠ some (pL q)) → Run X (d + 5) c_Crossing_lay 20 [some (pR 13), some (pR (h + 4)), some (pR (h2 + 4)), some (pI e), y] [] S z z2 0 0 Q := by
    intro hnt
    refine loop_up _ (cNE s) (fun e hke ih h0 z z2 ms hz hz2 hM hs y hy => ?_)
    have hCz := CvT_frX hC h26 hz hz2
    have e8z := e8 _ _ hCz
    have inner : e < cNE s → ∀ f : Int, f ≤ cNE s2 → 0 ≤ f → ∀ (z z2 : ZM) (ms : MTS), frXI z zI → frXL z2 zL → MH z z2 ms →  (layI I J V s e I2 J2 V2 s2 (cNE s2 - f).toNat f ms).bind (fun ms2 => layO I J V s I2 J2 V2 s2 (cNE s - (e + 1)).toNat (e + 1) ms2) = layO I J V s I2 J2 V2 s2 (cNE s).toNat 0 m00 → Run X (d + 5) c_Crossing_lay 26 [some (pR 13), some (pR (h + 4)), some (pR (h2 + 4)), some (pI e), some (pI f)] [] S z z2 0 0 Q := by
      intro hen
      refine loop_up _ (cNE s2) (fun f hkf ihf f0 z z2 ms hz hz2 hM hs => ?_)
      have hCz := CvT_frX hC h26 hz hz2
      have hDz := CvT_frX hD h262 hz hz2
      have e8z := e82 _ _ hDz
      refine r_iload rfl rfl ?_
      refine r_aload_n rfl rfl ?_
      refine r_getI rfl hobc2 ?_
      rw [e8z]
      refine r_icmp_ge rfl (by unfold inI; omega) (by unfold inI; omega) (fun h29 => ?_) (fun h29 => ?_)
      · skip
        refine r_iinc rfl rfl ?_
        refine r_goto rfl ?_
        rw [layI_e (by omega)] at hs
        exact ih hen (by omega) z z2 ms hz hz2 hM hs _ (fun _ => by simp)
      · skip
        refine r_aload_n rfl rfl ?_
        refine r_aload_n rfl rfl ?_
        refine r_iload_n rfl rfl ?_
        refine r_aload_n rfl rfl ?_
        refine r_iload rfl rfl ?_
        refine r_cV5 rfl xob (Nat.le_of_ble_eq_true rfl) rfl rfl (w_layEdges hX hCz hDz h0 hen f0 (by omega) h26 h262 hM (fun hb z4 f4 => by
          refine r_if_ne rfl (by unfold inI; omega) (fun q => absurd rfl q) (fun _ => ?_)
          refine r_iconst rfl ?_
          refine r_zret rfl (Or.inl rfl) ?_
          rw [layI_b (by omega) hb] at hs
          exact hQ0 (by unfold laySd; rw [if_neg hnt, ← hs]; rfl) z z4 hz (frXL_t hz2 f4) hM.2.2.2.2) (fun hb z3 z4 f3 f4 hM3 => ?_))
        refine r_if_ne rfl (by unfold inI; omega) (fun h36 => ?_) (fun h36 => ?_)
        · skip
          refine r_iinc rfl rfl ?_
          refine r_goto rfl ?_
          rw [layI_s (by omega) hb] at hs
          exact ihf (by omega) (by omega) z3 z4 _ (frXI_t hz f3) (frXL_t hz2 f4) hM3 hs
        · skip
          exact absurd h36 (by decide)
    refine r_iload_n rfl rfl ?_
    refine r_aload_n rfl rfl ?_
    refine r_getI rfl hobc ?_
    rw [e8z]
    refine r_icmp_ge rfl (by unfold inI; omega) (by unfold inI; omega) (fun h23 => ?_) (fun h23 => ?_)
    · skip
      refine r_iconst rfl ?_
      refine r_zret rfl (by first | exact Or.inl rfl | exact Or.inr rfl) ?_
      rw [layO_e (by omega)] at hs
      exact hQ1 ms (by unfold laySd; rw [if_neg hnt]; exact hs.symm) z z2 hz hz2 hM
    · skip
      refine r_iconst rfl ?_
      refine r_istore rfl (Nat.le_of_ble_eq_true rfl) ?_
      rw [layO_s (by omega)] at hs
      exact inner (by omega) 0 ne02.1 (Int.le_refl _) z z2 ms hz hz2 hM (by rw [Int.sub_zero]; exact hs)
  refine wp_in (C := c_Crossing_lay) (ls := [some (pR 13), some (pR (h + 4)), some (pR (h2 + 4)), none, none]) rfl rfl rfl rfl rfl ?_
  refine r_aload_n rfl rfl ?_
  refine r_getR rfl xob (by assumption) ?_
  refine r_iconst rfl ?_
  refine r_putI rfl x14 ?_
  have z1f : frXI (zput zI 14 5 0) zI := fun c k0 k1 => zput_row k0
  have z14 : zput zI 14 5 0 14 4 = 128 := by rw [zput_off (by decide)]; exact h128
  have hC1 := CvT_frX hC h26 z1f (fun c _ => rfl : frXL zL zL)
  have hD1 := CvT_frX hD h262 z1f (fun c _ => rfl : frXL zL zL)
  refine r_aload_n rfl rfl ?_
  refine r_aload_n rfl rfl ?_
  refine r_aload_n rfl rfl ?_
  refine r_getR rfl hobc2 (by assumption) ?_
  refine r_cV3 rfl xob (Nat.le_of_ble_eq_true rfl) rfl rfl (w_touches hX hC1 hD1.1.2.1 hD1.2.1 hD1.2.2.1 h26 (fun z2 f2 => ?_))
  refine r_if_ne rfl (by unfold inI; omega) (fun h9 => ?_) (fun h9 => ?_)
  · skip
    refine r_iconst rfl ?_
    refine r_zret rfl (by first | exact Or.inl rfl | exact Or.inr rfl) ?_
    exact hQ0 (by unfold laySd; rw [if_pos (Or.inl (by omega))]) _ z2 z1f (fun c hc => f2 c (by omega)) z14
  · skip
    refine r_aload_n rfl rfl ?_
    refine r_aload_n rfl rfl ?_
    refine r_aload_n rfl rfl ?_
    refine r_getR rfl hobc (by assumption) ?_
    refine r_cV3 rfl xob (Nat.le_of_ble_eq_true rfl) rfl rfl (w_touches hX (CvT_frX hD1 h262 (fun c _ _ => rfl) (fun c hc => f2 c (by omega))) hC1.1.2.1 hC1.2.1 hC1.2.2.1 h262 (fun z3 f3 => ?_))
    refine r_if_eq rfl (by unfold inI; omega) (fun h15 => ?_) (fun h15 => ?_)
    · skip
      refine r_iconst rfl ?_
      refine r_istore_n rfl (Nat.le_of_ble_eq_true rfl) ?_
      exact body (fun q => by omega) 0 ne0.1 (Int.le_refl _) _ z3 m00 z1f (fun c hc => (f3 c (by omega)).trans (f2 c (by omega))) ⟨⟨zput_at, fun t p0 p1 => absurd p1 (by show ¬ t < 0; omega)⟩, ⟨Int.le_refl _, fun t p0 p1 => absurd p1 (by show ¬ t < 0; omega)⟩, by decide, fun t p0 p1 => absurd p1 (by show ¬ t < 0; omega), z14⟩ (by rw [Int.sub_zero]) none (fun _ => by simp)
    · skip
      refine r_iconst rfl ?_
      refine r_zret rfl (by first | exact Or.inl rfl | exact Or.inr rfl) ?_
      exact hQ0 (by unfold laySd; rw [if_pos (Or.inr (by omega))]) _ z3 z1f (fun c hc => (f3 c (by omega)).trans (f2 c (by omega))) z14
