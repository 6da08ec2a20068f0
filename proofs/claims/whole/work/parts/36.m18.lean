/-! CURVES: the drawing as a function -/
abbrev CS : Type := Int × (Int → Int) × (Int → Int) × (Int → Int) × (Int → Int) × Int × (Int → Int) × (Int → Int) × (Int → Int) × (Int → Int)
def mkC (ne : Int) (fo la fi ls : Int → Int) (m : Int) (X XD Y YD : Int → Int) : CS := (ne, fo, la, fi, ls, m, X, XD, Y, YD)
def cNE (s : CS) : Int := s.1
def cFO (s : CS) : Int → Int := s.2.1
def cLA (s : CS) : Int → Int := s.2.2.1
def cFI (s : CS) : Int → Int := s.2.2.2.1
def cLS (s : CS) : Int → Int := s.2.2.2.2.1
def cM (s : CS) : Int := s.2.2.2.2.2.1
def cX (s : CS) : Int → Int := s.2.2.2.2.2.2.1
def cXD (s : CS) : Int → Int := s.2.2.2.2.2.2.2.1
def cY (s : CS) : Int → Int := s.2.2.2.2.2.2.2.2.1
def cYD (s : CS) : Int → Int := s.2.2.2.2.2.2.2.2.2
def CvT (S : SS) (zI zL : ZM) (h : Nat) (n : Int) (I J V : Int → Int) (s : CS) : Prop := CvH S zI zL h n I J V (cNE s) (cFO s) (cLA s) (cFI s) (cLS s) (cM s) (cX s) (cXD s) (cY s) (cYD s)
/-- where the corner of a, b and k stands or would stand -/
def corP (I J V : Int → Int) (s : CS) (a b k : Int) : Int := skS (cM s) (cX s) (cXD s) (cY s) (cYD s) (cpX I J V a b k) (cpXD I J V a b k) (cpY I J V a b k) (cpYD I J V a b k)
abbrev corH (I J V : Int → Int) (s : CS) (a b k : Int) : Prop := corP I J V s a b k < cM s ∧ cmpP (cX s (corP I J V s a b k)) (cXD s (corP I J V s a b k)) (cY s (corP I J V s a b k)) (cYD s (corP I J V s a b k)) (cpX I J V a b k) (cpXD I J V a b k) (cpY I J V a b k) (cpYD I J V a b k) = 0
def corA (I J V : Int → Int) (s : CS) (a b k : Int) : Int := if corH I J V s a b k then corP I J V s a b k else if cM s < 75 then corP I J V s a b k else -1
def corI (I J V : Int → Int) (s : CS) (a b k : Int) : CS := mkC (cNE s) (cFO s) (cLA s) (bmp (corP I J V s a b k) (cFI s)) (bmp (corP I J V s a b k) (cLS s)) (cM s + 1) (insF (cX s) (corP I J V s a b k) (cpX I J V a b k)) (insF (cXD s) (corP I J V s a b k) (cpXD I J V a b k)) (insF (cY s) (corP I J V s a b k) (cpY I J V a b k)) (insF (cYD s) (corP I J V s a b k) (cpYD I J V a b k))
def corT (I J V : Int → Int) (s : CS) (a b k : Int) : CS := if corH I J V s a b k then s else if cM s < 75 then corI I J V s a b k else s
def sFI (s : CS) (e v : Int) : CS := mkC (cNE s) (cFO s) (cLA s) (updF (cFI s) e v) (cLS s) (cM s) (cX s) (cXD s) (cY s) (cYD s)
def sLS (s : CS) (e v : Int) : CS := mkC (cNE s) (cFO s) (cLA s) (cFI s) (updF (cLS s) e v) (cM s) (cX s) (cXD s) (cY s) (cYD s)
def ad1 (s : CS) (a b : Int) : CS := mkC (cNE s + 1) (updF (cFO s) (cNE s) a) (updF (cLA s) (cNE s) b) (updF (cFI s) (cNE s) (-1)) (updF (cLS s) (cNE s) (-1)) (cM s) (cX s) (cXD s) (cY s) (cYD s)
def adF (I J V : Int → Int) (s : CS) (e a b l : Int) : CS := if l = -1 then s else sFI (corT I J V s a b l) e (corA I J V s a b l)
def adG (I J V : Int → Int) (s : CS) (e a b g : Int) : CS := if g = -1 then s else sLS (corT I J V s a b g) e (corA I J V s a b g)
/-- an edge more -/
def addS (I J V : Int → Int) (s : CS) (a b l g : Int) : CS := adG I J V (adF I J V (ad1 s a b) (cNE s) a b l) (cNE s) a b g
/-- the cells of the curve of the form at h that a drawing writes, or the scratch point -/
def frI (h : Nat) (z zI : ZM) : Prop := ∀ c, c ≠ h + 4 → c ≠ h + 6 → c ≠ h + 11 → c ≠ h + 12 → c ≠ h + 13 → c ≠ h + 14 → z c = zI c
def frL (h : Nat) (z zL : ZM) : Prop := ∀ c, (c < h + 5 ∨ c = h + 6 ∨ h + 10 < c) → z c = zL c
theorem corP_b {I J V : Int → Int} {s : CS} {a b k : Int} (h : 0 ≤ cM s) : 0 ≤ corP I J V s a b k ∧ corP I J V s a b k ≤ cM s := skS_b _ _ _ _ _ _ _ _ _ h
theorem corA_b {I J V : Int → Int} {s : CS} {a b k : Int} (h : 0 ≤ cM s) : -1 ≤ corA I J V s a b k ∧ corA I J V s a b k < cM (corT I J V s a b k) := by
  have hb := corP_b (I := I) (J := J) (V := V) (s := s) (a := a) (b := b) (k := k) h
  unfold corA corT
  split
  · rename_i q; exact ⟨by omega, q.1⟩
  · split
    · exact ⟨by omega, by show _ < cM s + 1; omega⟩
    · omega
theorem w_cornerT {X : PX} {d : Nat} {S : SS} {zI zL : ZM} {Q : PQ} {h : Nat} {n : Int} {I J V : Int → Int} {s : CS} (hC : CvT S zI zL h n I J V s) {e k u v : Int} (h0 : 0 ≤ e) (h1 : e < cNE s) (hk : 0 ≤ k ∧ k < n) (hab : I (cLA s e) ≠ I (cFO s e) ∨ J (cLA s e) ≠ J (cFO s e)) (ht : trE I J (cFO s e) (cLA s e) k ≠ 0) (huv : (u = -(rsE I J V (cFO s e) (cLA s e) k) ∧ v = trE I J (cFO s e) (cLA s e) k) ∨ (u = rsE I J V (cFO s e) (cLA s e) k ∧ v = -(trE I J (cFO s e) (cLA s e) k)))
    (hmost : zI (h + 6) 4 = 75) (hQ : ∀ z z2, frI h z zI → z (h + 4) = zI (h + 4) → frL h z2 zL → z (h + 6) 4 = 75 → CvT S z z2 h n I J V (corT I J V s (cFO s e) (cLA s e) k) → Q (some (pI (corA I J V s (cFO s e) (cLA s e) k))) S z z2) : wpM X (d + 3) fCurve_cornerOn [pR (h + 4), pI e, pL u, pL v] S zI zL Q := by
  refine w_cornerOn hC h0 h1 hk hab ht huv (fun hs hm z2 hz2 => ?_) (fun hs z2 hz2 => ?_) (fun hs hm z z2 h4 hz hz2 hC2 => ?_) hmost
  · have hs2 : ¬ corH I J V s (cFO s e) (cLA s e) k := hs
    have hm2 : ¬ cM s < 75 := by omega
    have hm := hQ zI z2 (fun c _ _ _ _ _ _ => rfl) rfl (fun c hc => hz2 c (by omega)) hmost
    unfold corT corA at hm
    rw [if_neg hs2, if_neg hm2, if_neg hs2, if_neg hm2] at hm
    exact hm (CvH_fr hC (fun c _ _ => rfl) (fun c c0 c1 => hz2 c (by omega)))
  · have hs2 : corH I J V s (cFO s e) (cLA s e) k := hs
    have hm := hQ zI z2 (fun c _ _ _ _ _ _ => rfl) rfl (fun c hc => hz2 c (by omega)) hmost
    unfold corT corA at hm
    rw [if_pos hs2, if_pos hs2] at hm
    exact hm (CvH_fr hC (fun c _ _ => rfl) (fun c c0 c1 => hz2 c (by omega)))
  · have hs2 : ¬ corH I J V s (cFO s e) (cLA s e) k := hs
    have hm2 : cM s < 75 := hm
    have hm := hQ z z2 (fun c c0 c1 c2 c3 c4 c5 => hz c c1 c4 c5) (hz (h + 4) (by omega) (by omega) (by omega)) hz2 h4
    unfold corT corA at hm
    rw [if_neg hs2, if_pos hm2, if_neg hs2, if_pos hm2] at hm
    exact hm hC2
theorem CvT_FI {S : SS} {zI zL : ZM} {h : Nat} {n : Int} {I J V : Int → Int} {s : CS} (hC : CvT S zI zL h n I J V s) {e v : Int} (h0 : 0 ≤ e) (h1 : e < cNE s) (hv : -1 ≤ v ∧ v < cM s) : CvT S (zput zI (h + 13) e v) zL h n I J V (sFI s e v) := by
  unfold CvT at hC
  obtain ⟨hcv, hT, hR, ⟨e8, hne, hed⟩, hP, hPR, hm75⟩ := hC
  refine ⟨hcv, FH_fr hT (fun c _ _ => zput_row (by omega)), hR, ⟨by rw [zput_row (by omega)]; exact e8, hne, fun e2 p0 p1 => ?_⟩, PsH_fr hP (zput_row (by omega)) (fun c _ _ => rfl), hPR, hm75⟩
  obtain ⟨⟨x1, x2, x3, x4⟩, x5, x6, x7, x8, x9, x10, x11, x12⟩ := hed e2 p0 p1
  refine ⟨⟨by rw [zput_row (by omega)]; exact x1, by rw [zput_row (by omega)]; exact x2, ?_, by rw [zput_row (by omega)]; exact x4⟩, x5, x6, x7, x8, ?_, ?_, x11, x12⟩
  · show zput zI (h + 13) e v (h + 13) e2 = updF (cFI s) e v e2
    unfold updF
    by_cases q : e2 = e
    · subst q; rw [if_pos rfl]; exact zput_at
    · rw [if_neg q, zput_off q]; exact x3
  · show -1 ≤ updF (cFI s) e v e2
    unfold updF; split <;> omega
  · show updF (cFI s) e v e2 < cM s
    unfold updF; split <;> omega
theorem CvT_LS {S : SS} {zI zL : ZM} {h : Nat} {n : Int} {I J V : Int → Int} {s : CS} (hC : CvT S zI zL h n I J V s) {e v : Int} (h0 : 0 ≤ e) (h1 : e < cNE s) (hv : -1 ≤ v ∧ v < cM s) : CvT S (zput zI (h + 14) e v) zL h n I J V (sLS s e v) := by
  unfold CvT at hC
  obtain ⟨hcv, hT, hR, ⟨e8, hne, hed⟩, hP, hPR, hm75⟩ := hC
  refine ⟨hcv, FH_fr hT (fun c _ _ => zput_row (by omega)), hR, ⟨by rw [zput_row (by omega)]; exact e8, hne, fun e2 p0 p1 => ?_⟩, PsH_fr hP (zput_row (by omega)) (fun c _ _ => rfl), hPR, hm75⟩
  obtain ⟨⟨x1, x2, x3, x4⟩, x5, x6, x7, x8, x9, x10, x11, x12⟩ := hed e2 p0 p1
  refine ⟨⟨by rw [zput_row (by omega)]; exact x1, by rw [zput_row (by omega)]; exact x2, by rw [zput_row (by omega)]; exact x3, ?_⟩, x5, x6, x7, x8, x9, x10, ?_, ?_⟩
  · show zput zI (h + 14) e v (h + 14) e2 = updF (cLS s) e v e2
    unfold updF
    by_cases q : e2 = e
    · subst q; rw [if_pos rfl]; exact zput_at
    · rw [if_neg q, zput_off q]; exact x4
  · show -1 ≤ updF (cLS s) e v e2
    unfold updF; split <;> omega
  · show updF (cLS s) e v e2 < cM s
    unfold updF; split <;> omega
theorem CvT_ad1 {S : SS} {zI zL : ZM} {h : Nat} {n : Int} {I J V : Int → Int} {s : CS} (hC : CvT S zI zL h n I J V s) {a b : Int} (ha : 0 ≤ a ∧ a < n) (hb : 0 ≤ b ∧ b < n) (hn : cNE s < 114) : CvT S (zput (zput (zput (zput (zput zI (h + 11) (cNE s) a) (h + 12) (cNE s) b) (h + 13) (cNE s) (-1)) (h + 14) (cNE s) (-1)) (h + 4) 8 (cNE s + 1)) zL h n I J V (ad1 s a b) := by
  unfold CvT at hC
  obtain ⟨hcv, hT, hR, ⟨e8, hne, hed⟩, hP, hPR, hm75⟩ := hC
  refine ⟨hcv, FH_fr hT (fun c _ _ => by rw [zput_row (by omega), zput_row (by omega), zput_row (by omega), zput_row (by omega), zput_row (by omega)]), hR, ⟨zput_at, ⟨by show 0 ≤ cNE s + 1; omega, by show cNE s + 1 ≤ 114; omega⟩, fun e2 p0 p1 => ?_⟩, PsH_fr hP (by rw [zput_row (by omega), zput_row (by omega), zput_row (by omega), zput_row (by omega), zput_row (by omega)]) (fun c _ _ => rfl), hPR, hm75⟩
  have p1' : e2 < cNE s + 1 := p1
  have hm0 : 0 ≤ cM s := hPR.1
  by_cases q : e2 = cNE s
  · subst q
    refine ⟨⟨?_, ?_, ?_, ?_⟩, ?_⟩
    · show _ = updF (cFO s) (cNE s) a (cNE s); unfold updF; rw [if_pos rfl, zput_row (by omega), zput_row (by omega), zput_row (by omega), zput_row (by omega)]; exact zput_at
    · show _ = updF (cLA s) (cNE s) b (cNE s); unfold updF; rw [if_pos rfl, zput_row (by omega), zput_row (by omega), zput_row (by omega)]; exact zput_at
    · show _ = updF (cFI s) (cNE s) (-1) (cNE s); unfold updF; rw [if_pos rfl, zput_row (by omega), zput_row (by omega)]; exact zput_at
    · show _ = updF (cLS s) (cNE s) (-1) (cNE s); unfold updF; rw [if_pos rfl, zput_row (by omega)]; exact zput_at
    · show 0 ≤ updF (cFO s) (cNE s) a (cNE s) ∧ updF (cFO s) (cNE s) a (cNE s) < n ∧ 0 ≤ updF (cLA s) (cNE s) b (cNE s) ∧ updF (cLA s) (cNE s) b (cNE s) < n ∧ -1 ≤ updF (cFI s) (cNE s) (-1) (cNE s) ∧ updF (cFI s) (cNE s) (-1) (cNE s) < cM s ∧ -1 ≤ updF (cLS s) (cNE s) (-1) (cNE s) ∧ updF (cLS s) (cNE s) (-1) (cNE s) < cM s
      unfold updF; rw [if_pos rfl, if_pos rfl, if_pos rfl]; omega
  · obtain ⟨⟨x1, x2, x3, x4⟩, x5, x6, x7, x8, x9, x10, x11, x12⟩ := hed e2 p0 (by omega)
    refine ⟨⟨?_, ?_, ?_, ?_⟩, ?_⟩
    · show _ = updF (cFO s) (cNE s) a e2; unfold updF; rw [if_neg q, zput_row (by omega), zput_row (by omega), zput_row (by omega), zput_row (by omega), zput_off q]; exact x1
    · show _ = updF (cLA s) (cNE s) b e2; unfold updF; rw [if_neg q, zput_row (by omega), zput_row (by omega), zput_row (by omega), zput_off q, zput_row (by omega)]; exact x2
    · show _ = updF (cFI s) (cNE s) (-1) e2; unfold updF; rw [if_neg q, zput_row (by omega), zput_row (by omega), zput_off q, zput_row (by omega), zput_row (by omega)]; exact x3
    · show _ = updF (cLS s) (cNE s) (-1) e2; unfold updF; rw [if_neg q, zput_row (by omega), zput_off q, zput_row (by omega), zput_row (by omega), zput_row (by omega)]; exact x4
    · show 0 ≤ updF (cFO s) (cNE s) a e2 ∧ updF (cFO s) (cNE s) a e2 < n ∧ 0 ≤ updF (cLA s) (cNE s) b e2 ∧ updF (cLA s) (cNE s) b e2 < n ∧ -1 ≤ updF (cFI s) (cNE s) (-1) e2 ∧ updF (cFI s) (cNE s) (-1) e2 < cM s ∧ -1 ≤ updF (cLS s) (cNE s) (-1) e2 ∧ updF (cLS s) (cNE s) (-1) e2 < cM s
      unfold updF; rw [if_neg q, if_neg q, if_neg q, if_neg q]; exact ⟨x5, x6, x7, x8, x9, x10, x11, x12⟩
