/-! THE LAW: what stands between two calls -/
def MATH (a : FA) : Prop := CPa a ∧ IDa a (idF a) ∧ RGa a ∧ AMa a ∧ DRa a ∧ MEa a ∧ M8a a
def MATHS : Prop := ∀ a, FOK a → MATH a
def CIv (S : SS) (z y : ZM) (a : FA) (rn : Int) (r : Int → Int) (t : List Int) (s : SA) : Prop := CF S z y a ∧ CRw z y rn r ∧ TrH z 24 25 1 t ∧ CSh z y s
def MIv (z y : ZM) (a : FA) (rn : Int) (r : Int → Int) (t : List Int) (s : SA) : Prop := MF z a ∧ MRw z y rn r ∧ TrH z 184 216 50 t ∧ MSh z s
def GDv (a : FA) (rn : Int) (r : Int → Int) (t : List Int) (s : SA) : Prop := FOK a ∧ (0 ≤ rn ∧ rn ≤ 756) ∧ (∀ k, 0 ≤ k → k < rn → inL (r k)) ∧ t.length ≤ 40 ∧ SOK s
def IV (S : SS) (z y : ZM) (a : FA) (rn : Int) (r : Int → Int) (t : List Int) (s : SA) : Prop := CIv S z y a rn r t s ∧ MIv z y a rn r t s ∧ GDv a rn r t s
theorem TrH_fr {z z' : ZM} {p q : Nat} {k : Int} {t : List Int} (h : TrH z p q k t) (h1 : z' p k = z p k) (h2 : z' q = z q) : TrH z' p q k t := by unfold TrH at *; rw [h1, h2]; exact h
theorem CIv_lo {S : SS} {z y z' y' : ZM} {a : FA} {rn : Int} {r : Int → Int} {t : List Int} {s : SA} (h : CIv S z y a rn r t s) (hk : FOK a) (hz : ∀ c, c < 184 → z' c = z c) (hy : ∀ c, c < 184 → y' c = y c) : CIv S z' y' a rn r t s := by
  obtain ⟨h1, ⟨h2, h2'⟩, h3, h4⟩ := h
  refine ⟨CF_fr h1 hk (by rw [hz 0 (by decide)]) (by rw [hz 14 (by decide)]) (fun c c0 c1 => hz c (by omega)) (fun f c f0 f1 c0 c1 => hy c (by have := fO_b f0 f1; omega)), ⟨by rw [hz 0 (by decide)]; exact h2, by rw [hy 4 (by decide)]; exact h2'⟩, TrH_fr h3 (by rw [hz 24 (by decide)]) (hz 25 (by decide)), CSh_fr h4 (fun c _ c1 => hz c (by omega)) (fun c _ c1 => hy c (by omega))⟩
theorem MIv_hi {z y z' y' : ZM} {a : FA} {rn : Int} {r : Int → Int} {t : List Int} {s : SA} (h : MIv z y a rn r t s) (hz : ∀ c, 184 ≤ c → z' c = z c) (hy : ∀ c, 184 ≤ c → y' c = y c) : MIv z' y' a rn r t s := by
  obtain ⟨h1, ⟨h2, h2'⟩, h3, h4⟩ := h
  refine ⟨MF_fr h1 (by rw [hz 184 (by decide)]) (fun c c0 c1 => hz c (by omega)), ⟨by rw [hz 184 (by decide)]; exact h2, by rw [hy 214 (by decide)]; exact h2'⟩, TrH_fr h3 (by rw [hz 184 (by decide)]) (hz 216 (by decide)), ?_⟩
  unfold MSh at *
  rw [hz 217 (by decide), hz 218 (by decide), hz 219 (by decide)]; exact h4
/-- the reference's state where its own cells change only where it does not look -/
theorem MIv_q {z y z' y' : ZM} {a : FA} {rn : Int} {r : Int → Int} {t : List Int} {s : SA} (h : MIv z y a rn r t s) (h0 : z' 184 0 = z 184 0) (h48 : z' 184 48 = z 184 48) (h50 : z' 184 50 = z 184 50) (hz : ∀ c, 185 ≤ c → c ≤ 189 → z' c = z c) (h216 : z' 216 = z 216) (h217 : z' 217 = z 217) (h218 : z' 218 = z 218) (h219 : z' 219 = z 219) (hy : y' 214 = y 214) : MIv z' y' a rn r t s := by
  obtain ⟨h1, ⟨h2, h2'⟩, h3, h4⟩ := h
  refine ⟨MF_fr h1 h0 hz, ⟨h48.trans h2, by rw [hy]; exact h2'⟩, TrH_fr h3 h50 h216, ?_⟩
  unfold MSh at *
  rw [h217, h218, h219]; exact h4
section CI
variable {S : SS} {z y z' y' : ZM} {a a' : FA} {rn rn' : Int} {r r' : Int → Int} {t t' : List Int} {s s' : SA}
theorem ci_V (h : CIv S z y a rn r t s) (hz : frV z' z) (hy : frV y' y) (hC : CF S z' y' a') : CIv S z' y' a' rn r t s := by
  obtain ⟨h1, ⟨h2, h2'⟩, h3, h4⟩ := h
  exact ⟨hC, ⟨by rw [hz 0 (Or.inl rfl)]; exact h2, by rw [hy 4 (by omega)]; exact h2'⟩, TrH_fr h3 (by rw [hz 24 (by omega)]) (hz 25 (by omega)), CSh_fr h4 (fun c c0 _ => hz c (by omega)) (fun c c0 _ => hy c (by omega))⟩
theorem ci_Va (h : CIv S z y a rn r t s) (hz : frVa z' z) (hC : CF S z' y a') : CIv S z' y a' rn r t s := by
  obtain ⟨h1, ⟨h2, h2'⟩, h3, h4⟩ := h
  exact ⟨hC, ⟨by rw [hz.2 11 (by decide)]; exact h2, h2'⟩, TrH_fr h3 (by rw [hz.1 24 (by omega)]) (hz.1 25 (by omega)), CSh_fr h4 (fun c c0 _ => hz.1 c (by omega)) (fun c c0 _ => rfl)⟩
theorem ci_W (h : CIv S z y a rn r t s) (hz : frWi z' z) (hy : frWl y' y) (hC : CF S z' y' a) (hR : CRw z' y' rn' r') : CIv S z' y' a rn' r' t s := by
  obtain ⟨h1, h2, h3, h4⟩ := h
  exact ⟨hC, hR, TrH_fr h3 (by rw [hz.1 24 (by omega)]) (hz.1 25 (by omega)), CSh_fr h4 (fun c c0 _ => hz.1 c (by omega)) (fun c c0 _ => hy c (by omega))⟩
theorem ci_A (h : CIv S z y a rn r t s) (hk : FOK a) (hz : frAc z' z) (hT : TrH z' 24 25 1 t') : CIv S z' y a rn r t' s := by
  obtain ⟨h1, ⟨h2, h2'⟩, h3, h4⟩ := h
  exact ⟨CF_fr h1 hk (by rw [hz 0 (by decide) (by decide)]) (by rw [hz 14 (by decide) (by decide)]) (fun c c0 c1 => hz c (by omega) (by omega)) (fun _ _ _ _ _ _ => rfl), ⟨by rw [hz 0 (by decide) (by decide)]; exact h2, h2'⟩, hT, CSh_fr h4 (fun c c0 _ => hz c (by omega) (by omega)) (fun c c0 _ => rfl)⟩
theorem ci_S (h : CIv S z y a rn r t s) (hk : FOK a) (hz : frSc z' z) (hy : frSc y' y) (hS : CSh z' y' s') : CIv S z' y' a rn r t s' := by
  obtain ⟨h1, ⟨h2, h2'⟩, h3, h4⟩ := h
  exact ⟨CF_fr h1 hk (by rw [hz 0 (by decide)]) (by rw [hz 14 (by decide)]) (fun c c0 c1 => hz c (by omega)) (fun f c f0 f1 c0 c1 => hy c (by have := fO_b f0 f1; omega)), ⟨by rw [hz 0 (by decide)]; exact h2, by rw [hy 4 (by decide)]; exact h2'⟩, TrH_fr h3 (by rw [hz 24 (by decide)]) (hz 25 (by decide)), hS⟩
theorem ci_F (h : CIv S z y a rn r t s) (hk : FOK a) (hy : ∀ c, c ≠ 4 → y' c = y c) (hR : CRw z y' rn r') : CIv S z y' a rn r' t s := by
  obtain ⟨h1, h2, h3, h4⟩ := h
  exact ⟨CF_fr h1 hk rfl rfl (fun _ _ _ => rfl) (fun f c f0 f1 c0 c1 => hy c (by have := fO_b f0 f1; omega)), hR, h3, CSh_fr h4 (fun c c0 _ => rfl) (fun c c0 _ => hy c (by omega))⟩
theorem mi_V (h : MIv z y a rn r t s) (hz : frV z' z) (hy : frV y' y) : MIv z' y' a rn r t s := MIv_hi h (fun c c0 => hz c (by omega)) (fun c c0 => hy c (by omega))
theorem mi_Va (h : MIv z y a rn r t s) (hz : frVa z' z) : MIv z' y a rn r t s := MIv_hi h (fun c c0 => hz.1 c (by omega)) (fun c c0 => rfl)
theorem mi_W (h : MIv z y a rn r t s) (hz : frWi z' z) (hy : frWl y' y) : MIv z' y' a rn r t s := MIv_hi h (fun c c0 => hz.1 c (by omega)) (fun c c0 => hy c (by omega))
theorem mi_A (h : MIv z y a rn r t s) (hz : frAc z' z) : MIv z' y a rn r t s := MIv_hi h (fun c c0 => hz c (by omega) (by omega)) (fun c c0 => rfl)
theorem mi_S (h : MIv z y a rn r t s) (hz : frSc z' z) (hy : frSc y' y) : MIv z' y' a rn r t s := MIv_hi h (fun c c0 => hz c (by omega)) (fun c c0 => hy c (by omega))
theorem mi_F (h : MIv z y a rn r t s) (hy : ∀ c, c ≠ 4 → y' c = y c) : MIv z y' a rn r t s := MIv_hi h (fun c c0 => rfl) (fun c c0 => hy c (by omega))
theorem rX (hC : CIv S z y a' rn r t s) (hM : MIv z y a rn r t s) (hG : GDv a rn r t s) (hk : FOK a') (hz : frX z' z) (hF : MF z' a') : IV S z' y a' rn r t s := by
  obtain ⟨h1, ⟨h2, h2'⟩, h3, h4⟩ := hM
  refine ⟨CIv_lo hC hk (fun c c0 => hz.1 c (by omega)) (fun _ _ => rfl), ⟨hF, ⟨(hz.2 48 (by decide) (by decide)).trans h2, h2'⟩, TrH_fr h3 (hz.2 50 (by decide) (by decide)) (hz.1 216 (by omega)), ?_⟩, hk, hG.2⟩
  unfold MSh at *
  rw [hz.1 217 (by omega), hz.1 218 (by omega), hz.1 219 (by omega)]; exact h4
theorem r0 (hC : CIv S z y a rn r t s) (hM : MIv z y a rn r t s) (hG : GDv a rn r t s) : IV S z y a rn r t s := ⟨hC, hM, hG⟩
theorem rLL (hC : CIv S z y a rn r t s) (hM : MIv z y a rn r t s) (hG : GDv a rn r t s) (hy : ∀ c, c ≠ 184 → y' c = y c) : IV S z y' a rn r t s := ⟨CIv_lo hC hG.1 (fun _ _ => rfl) (fun c c0 => hy c (by omega)), MIv_q hM rfl rfl rfl (fun _ _ _ => rfl) rfl rfl rfl rfl (hy 214 (by decide)), hG⟩
theorem rR (hC : CIv S z y a rn r t s) (hM : MIv z y a rn r t s) (hG : GDv a rn r t s) (hz : frR z' z) : IV S z' y a rn r t s := ⟨CIv_lo hC hG.1 (fun c c0 => hz.1 c (by omega) (by omega) (by omega)) (fun _ _ => rfl), MIv_q hM (hz.2 0 (by decide)) (hz.2 48 (by decide)) (hz.2 50 (by decide)) (fun c c0 c1 => hz.1 c (by omega) (by omega) (by omega)) (hz.1 216 (by decide) (by decide) (by decide)) (hz.1 217 (by decide) (by decide) (by decide)) (hz.1 218 (by decide) (by decide) (by decide)) (hz.1 219 (by decide) (by decide) (by decide)) rfl, hG⟩
theorem rY (hC : CIv S z y a rn r t s) (hM : MIv z y a rn r t s) (hG : GDv a rn r t s) (hz : frY z' z) (hy : frYL y' y) : IV S z' y' a rn r t s := ⟨CIv_lo hC hG.1 (fun c c0 => hz.1 c (by omega) (by omega) (by omega)) (fun c c0 => hy c (by omega) (by omega) (by omega)), MIv_q hM (hz.2 0 (by decide) (by decide) (by decide) (by decide) (by decide)) (hz.2 48 (by decide) (by decide) (by decide) (by decide) (by decide)) (hz.2 50 (by decide) (by decide) (by decide) (by decide) (by decide)) (fun c c0 c1 => hz.1 c (by omega) (by omega) (by omega)) (hz.1 216 (by decide) (by decide) (by decide)) (hz.1 217 (by decide) (by decide) (by decide)) (hz.1 218 (by decide) (by decide) (by decide)) (hz.1 219 (by decide) (by decide) (by decide)) (hy 214 (by decide) (by decide) (by decide)), hG⟩
theorem rE (hC : CIv S z y a rn r t s) (hM : MIv z y a rn r t s) (hG : GDv a rn r t s) (hz : frE z' z) (hy : frEL y' y) : IV S z' y' a rn r t s := ⟨CIv_lo hC hG.1 (fun c c0 => hz.1 c (by omega) (by omega)) (fun c c0 => hy.1 c (by omega) (by omega)), MIv_q hM (hz.2 0 (by decide) (by decide) (by decide)) (hz.2 48 (by decide) (by decide) (by decide)) (hz.2 50 (by decide) (by decide) (by decide)) (fun c c0 c1 => hz.1 c (by omega) (by omega)) (hz.1 216 (by decide) (by decide)) (hz.1 217 (by decide) (by decide)) (hz.1 218 (by decide) (by decide)) (hz.1 219 (by decide) (by decide)) (hy.1 214 (by decide) (by decide)), hG⟩
theorem rW (hC : CIv S z y a rn r t s) (hM : MIv z y a rn r t s) (hG : GDv a rn r t s) (hz : frW z' z) (hy : frQL y' y) : IV S z' y' a rn r t s := ⟨CIv_lo hC hG.1 (fun c c0 => hz.1 c (by omega) (by omega)) (fun c c0 => hy.1 c (by omega) (by omega) (by omega) (by omega)), MIv_q hM (hz.2 0 (by decide) (by decide) (by decide) (by decide) (by decide) (by decide) (by decide)) (hz.2 48 (by decide) (by decide) (by decide) (by decide) (by decide) (by decide) (by decide)) (hz.2 50 (by decide) (by decide) (by decide) (by decide) (by decide) (by decide) (by decide)) (fun c c0 c1 => hz.1 c (by omega) (by omega)) (hz.1 216 (by decide) (by decide)) (hz.1 217 (by decide) (by decide)) (hz.1 218 (by decide) (by decide)) (hz.1 219 (by decide) (by decide)) (hy.1 214 (by decide) (by decide) (by decide) (by decide)), hG⟩
theorem rK (hC : CIv S z y a rn r t s) (hM : MIv z y a rn r t s) (hG : GDv a rn r t s) (hz : frK z' z) (hy : frPL y' y) : IV S z' y' a rn r t s := ⟨CIv_lo hC hG.1 (fun c c0 => hz.1 c (by omega) (by omega) (by omega)) (fun c c0 => hy.1 c (by omega) (by omega) (by omega) (by omega)), MIv_q hM (hz.2 0 (by decide) (by decide) (by decide) (by decide)) (hz.2 48 (by decide) (by decide) (by decide) (by decide)) (hz.2 50 (by decide) (by decide) (by decide) (by decide)) (fun c c0 c1 => hz.1 c (by omega) (by omega) (by omega)) (hz.1 216 (by decide) (by decide) (by decide)) (hz.1 217 (by decide) (by decide) (by decide)) (hz.1 218 (by decide) (by decide) (by decide)) (hz.1 219 (by decide) (by decide) (by decide)) (hy.1 214 (by decide) (by decide) (by decide) (by decide)), hG⟩
theorem rZ (hC : CIv S z y a rn' r' t s) (hM : MIv z y a rn r t s) (hG : GDv a rn' r' t s) (hz : frZ z' z) (hy : frZL y' y) (hR : MRw z' y' rn' r') : IV S z' y' a rn' r' t s := by
  obtain ⟨h1, h2, h3, h4⟩ := hM
  refine ⟨CIv_lo hC hG.1 (fun c c0 => hz.1 c (by omega) (by omega) (by omega)) (fun c c0 => hy.1 c (by omega) (by omega) (by omega) (by omega) (by omega)), ⟨MF_fr h1 (hz.2 0 (by decide) (by decide) (by decide) (by decide) (by decide)) (fun c c0 c1 => hz.1 c (by omega) (by omega) (by omega)), hR, TrH_fr h3 (hz.2 50 (by decide) (by decide) (by decide) (by decide) (by decide)) (hz.1 216 (by decide) (by decide) (by decide)), ?_⟩, hG⟩
  unfold MSh at *
  rw [hz.1 217 (by decide) (by decide) (by decide), hz.1 218 (by decide) (by decide) (by decide), hz.1 219 (by decide) (by decide) (by decide)]; exact h4
theorem rF (hC : CIv S z y a rn r' t s) (hM : MIv z y a rn r t s) (hG : GDv a rn r' t s) (hy : ∀ c, c ≠ 214 → y' c = y c) (hR : MRw z y' rn r') : IV S z y' a rn r' t s := ⟨CIv_lo hC hG.1 (fun _ _ => rfl) (fun c c0 => hy c (by omega)), ⟨hM.1, hR, hM.2.2.1, hM.2.2.2⟩, hG⟩
theorem rU (hC : CIv S z y a rn r t' s) (hM : MIv z y a rn r t s) (hG : GDv a rn r t' s) (hz : frU z' z) (hT : TrH z' 184 216 50 t') : IV S z' y a rn r t' s := by
  obtain ⟨h1, ⟨h2, h2'⟩, h3, h4⟩ := hM
  refine ⟨CIv_lo hC hG.1 (fun c c0 => hz.1 c (by omega) (by omega)) (fun _ _ => rfl), ⟨MF_fr h1 (hz.2 0 (by decide)) (fun c c0 c1 => hz.1 c (by omega) (by omega)), ⟨(hz.2 48 (by decide)).trans h2, h2'⟩, hT, ?_⟩, hG⟩
  unfold MSh at *
  rw [hz.1 217 (by decide) (by decide), hz.1 218 (by decide) (by decide), hz.1 219 (by decide) (by decide)]; exact h4
theorem rS (hC : CIv S z y a rn r t s') (hM : MIv z y a rn r t s) (hG : GDv a rn r t s') (hz : frS z' z) (hS : MSh z' s') : IV S z' y a rn r t s' := by
  obtain ⟨h1, ⟨h2, h2'⟩, h3, h4⟩ := hM
  exact ⟨CIv_lo hC hG.1 (fun c c0 => hz c (by omega) (by omega) (by omega) (by omega)) (fun _ _ => rfl), ⟨MF_fr h1 (by rw [hz 184 (by decide) (by decide) (by decide) (by decide)]) (fun c c0 c1 => hz c (by omega) (by omega) (by omega) (by omega)), ⟨by rw [hz 184 (by decide) (by decide) (by decide) (by decide)]; exact h2, h2'⟩, TrH_fr h3 (by rw [hz 184 (by decide) (by decide) (by decide) (by decide)]) (hz 216 (by decide) (by decide) (by decide) (by decide)), hS⟩, hG⟩
end CI
