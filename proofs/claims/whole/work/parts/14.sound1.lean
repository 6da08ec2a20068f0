/-! SOUNDNESS, first half: pictures of the pure machine's cells in the heap -/
def ad (bs : Nat) (ex : Nat → Nat) (j : Nat) : Nat := if j < xbase then bs + j else ex (j - xbase)
def tv (bs : Nat) (ex : Nat → Nat) : PV → Value
  | .inl a => .int (i3 a)
  | .inr (.inl a) => .long (i6 a)
  | .inr (.inr r) => va_rf (r.map (ad bs ex))
def fvO (bs : Nat) (ex : Nat → Nat) (S : SS) (zI zL : ZM) (ty : FieldType) (i : Nat) (k : Int) : Value := match ty with
  | .long => .long (i6 (zL i k))
  | .int => .int (i3 (zI i k))
  | .boolean => .int (i3 (zI i k))
  | _ => va_rf ((S.2 i k).map (ad bs ex))
def arO (bs : Nat) (ex : Nat → Nat) (S : SS) (zI zL : ZM) (kd i : Nat) : (Nat → Int32) ⊕ (Nat → Int64) ⊕ (Nat → UInt32) ⊕ (Nat → UInt64) ⊕ (Nat → Option Nat) :=
  if kd = 13 then .inr (.inl fun j => i6 (zL i (j : Int))) else if kd = 12 ∨ kd = 14 then .inl fun j => i3 (zI i (j : Int)) else .inr (.inr (.inr (.inr fun j => (S.2 i (j : Int)).map (ad bs ex))))
def fsO (bs : Nat) (ex : Nat → Nat) (S : SS) (zI zL : ZM) (a i : Nat) : List Value := (List.range (NF a)).map fun k => fvO bs ex S zI zL (tyF a k) i (k : Int)
def entO (bs : Nat) (ex : Nat → Nat) (cA : Nat → ClassId) (S : SS) (zI zL : ZM) (i : Nat) (m : Nat × Nat) : va_E := if m.1 < 12 then .inr (m.1, fsO bs ex S zI zL m.1 i) else .inl (cA i, m.2, arO bs ex S zI zL m.1 i)
def wlO (bs : Nat) (ex : Nat → Nat) (cA : Nat → ClassId) (S : SS) (zI zL : ZM) : va_W := S.1.zipIdx.map fun q => (bs + q.2, entO bs ex cA S zI zL q.2 q.1)
def elT (kd : Nat) : FieldType := if kd = 12 then .int else if kd = 13 then .long else if kd = 14 then .boolean else .object (arN kd)
def ARO (cA : Nat → ClassId) (S : SS) (s : State) : Prop := ∀ i kd n : Nat, S.1[i]? = some (kd, n) → 12 ≤ kd → ArrOfT s (cA i) (elT kd) ∧ va_RA s (cA i) (elT kd)
def LRO (bs : Nat) (ex : Nat → Nat) (ls : List (Option PV)) (lv : List (Nat × Value)) : Prop := ∀ (i : Nat) (v : PV), ls[i]? = some (some v) → (i, tv bs ex v) ∈ lv
theorem wlO_get (bs : Nat) (ex : Nat → Nat) (cA : Nat → ClassId) (S : SS) (zI zL : ZM) (i : Nat) : (wlO bs ex cA S zI zL)[i]? = (S.1[i]?).map fun m => (bs + i, entO bs ex cA S zI zL i m) := by
  unfold wlO
  rw [List.getElem?_map, List.getElem?_zipIdx, Option.map_map, Nat.zero_add]
  rfl
theorem wlO_at {bs : Nat} {ex : Nat → Nat} {cA : Nat → ClassId} {S : SS} {zI zL : ZM} {i : Nat} {m : Nat × Nat} (h : S.1[i]? = some m) : (wlO bs ex cA S zI zL)[i]? = some (bs + i, entO bs ex cA S zI zL i m) := by
  rw [wlO_get, h]; rfl
theorem wlO_obj {bs : Nat} {ex : Nat → Nat} {cA : Nat → ClassId} {S : SS} {zI zL : ZM} {i a : Nat} (h : S.1[i]? = some (a, 0)) (ha : a < 11) : (wlO bs ex cA S zI zL)[i]? = some (bs + i, .inr (a, fsO bs ex S zI zL a i)) := by
  rw [wlO_at h]; unfold entO; rw [if_pos (show a < 12 by omega)]
theorem wlO_arr {bs : Nat} {ex : Nat → Nat} {cA : Nat → ClassId} {S : SS} {zI zL : ZM} {i kd n : Nat} (h : S.1[i]? = some (kd, n)) (ha : 12 ≤ kd) : (wlO bs ex cA S zI zL)[i]? = some (bs + i, .inl (cA i, n, arO bs ex S zI zL kd i)) := by
  rw [wlO_at h]; unfold entO; rw [if_neg (show ¬ kd < 12 by omega)]
theorem entO_congr {bs : Nat} {ex : Nat → Nat} {cA cA' : Nat → ClassId} {S S' : SS} {zI zL zI' zL' : ZM} {i : Nat} (h1 : zI' i = zI i) (h2 : zL' i = zL i) (h3 : S'.2 i = S.2 i) (h4 : cA' i = cA i) (m : Nat × Nat) : entO bs ex cA' S' zI' zL' i m = entO bs ex cA S zI zL i m := by
  have e1 : ∀ ty k, fvO bs ex S' zI' zL' ty i k = fvO bs ex S zI zL ty i k := fun ty k => by unfold fvO; rw [h1, h2, h3]
  have e2 : ∀ a, fsO bs ex S' zI' zL' a i = fsO bs ex S zI zL a i := fun a => by unfold fsO; exact List.map_congr_left fun k _ => e1 _ _
  have e3 : ∀ a, arO bs ex S' zI' zL' a i = arO bs ex S zI zL a i := fun a => by unfold arO; rw [h1, h2, h3]
  unfold entO; rw [e2, e3, h4]
/-- one cell has changed -/
theorem wlO_set {bs : Nat} {ex : Nat → Nat} {cA : Nat → ClassId} {S S' : SS} {zI zL zI' zL' : ZM} {h : Nat} {m : Nat × Nat} {e : va_E} (hm : S.1[h]? = some m) (hS : S'.1 = S.1) (h1 : ∀ i, i ≠ h → zI' i = zI i) (h2 : ∀ i, i ≠ h → zL' i = zL i) (h3 : ∀ i, i ≠ h → S'.2 i = S.2 i) (he : entO bs ex cA S' zI' zL' h m = e) :
    (wlO bs ex cA S zI zL).set h (bs + h, e) = wlO bs ex cA S' zI' zL' := by
  apply List.ext_getElem?
  intro i
  rw [wlO_get, List.getElem?_set, wlO_get, hS]
  by_cases hi : h = i
  · subst hi
    have hlt : h < (wlO bs ex cA S zI zL).length := (List.getElem?_eq_some_iff.mp (wlO_at hm)).1
    rw [if_pos rfl, if_pos hlt, hm, ← he]; rfl
  · rw [if_neg hi]
    cases hc : S.1[i]? with
    | none => rfl
    | some q => simp only [Option.map_some]; rw [entO_congr (h1 i (fun z => hi z.symm)) (h2 i (fun z => hi z.symm)) (h3 i (fun z => hi z.symm)) rfl]
theorem wlO_push {bs : Nat} {ex : Nat → Nat} {cA cA' : Nat → ClassId} {S S' : SS} {zI zL zI' zL' : ZM} {m : Nat × Nat} {e : va_E} (hS : S'.1 = S.1 ++ [m]) (h1 : ∀ i, i < S.1.length → zI' i = zI i) (h2 : ∀ i, i < S.1.length → zL' i = zL i) (h3 : ∀ i, i < S.1.length → S'.2 i = S.2 i) (h4 : ∀ i, i < S.1.length → cA' i = cA i) (he : entO bs ex cA' S' zI' zL' S.1.length m = e) :
    wlO bs ex cA S zI zL ++ [(bs + S.1.length, e)] = wlO bs ex cA' S' zI' zL' := by
  have hl : (wlO bs ex cA S zI zL).length = S.1.length := by unfold wlO; rw [List.length_map, List.length_zipIdx]
  apply List.ext_getElem?
  intro i
  rw [wlO_get, hS]
  rcases Nat.lt_trichotomy i S.1.length with hi | hi | hi
  · rw [List.getElem?_append_left (by rw [hl]; exact hi), wlO_get, List.getElem?_append_left hi]
    cases hc : S.1[i]? with
    | none => rfl
    | some q => simp only [Option.map_some]; rw [entO_congr (h1 i hi) (h2 i hi) (h3 i hi) (h4 i hi)]
  · subst hi
    rw [List.getElem?_append_right (by omega), hl, Nat.sub_self, List.getElem?_append_right (Nat.le_refl _), Nat.sub_self, ← he]; rfl
  · rw [List.getElem?_eq_none (by rw [List.length_append, hl]; exact hi), List.getElem?_eq_none (by rw [List.length_append]; exact hi)]; rfl
theorem wlO_D (bs : Nat) (ex : Nat → Nat) (cA : Nat → ClassId) (S : SS) (zI zL : ZM) : va_D (fun q => bs ≤ q) (wlO bs ex cA S zI zL) := by
  have key : ∀ (k : Nat) (q : Nat × va_E), (wlO bs ex cA S zI zL)[k]? = some q → q.1 = bs + k := by
    intro k q h
    rw [wlO_get] at h
    cases hc : S.1[k]? with
    | none => rw [hc] at h; cases h
    | some m => rw [hc] at h; cases h; rfl
  refine ⟨fun i j p q h1 h2 h => ?_, fun k q h => ?_⟩
  · have a := key i p h1; have b := key j q h2; omega
  · rw [key k q h]; exact Nat.le_add_right _ _
theorem fsO_get {bs : Nat} {ex : Nat → Nat} {S : SS} {zI zL : ZM} {a i k : Nat} (hk : k < NF a) : (fsO bs ex S zI zL a i)[k]? = some (fvO bs ex S zI zL (tyF a k) i (k : Int)) := by
  unfold fsO; rw [List.getElem?_map, List.getElem?_range hk]; rfl
theorem fsO_len {bs : Nat} {ex : Nat → Nat} {S : SS} {zI zL : ZM} {a i : Nat} : (fsO bs ex S zI zL a i).length = NF a := by unfold fsO; rw [List.length_map, List.length_range]
theorem fsO_set {bs : Nat} {ex : Nat → Nat} {S S' : SS} {zI zL zI' zL' : ZM} {a i k : Nat} {v : Value} (hk : k < NF a) (hv : fvO bs ex S' zI' zL' (tyF a k) i (k : Int) = v) (h1 : ∀ j : Nat, j ≠ k → zI' i (j : Int) = zI i (j : Int)) (h2 : ∀ j : Nat, j ≠ k → zL' i (j : Int) = zL i (j : Int)) (h3 : ∀ j : Nat, j ≠ k → S'.2 i (j : Int) = S.2 i (j : Int)) :
    (fsO bs ex S zI zL a i).set k v = fsO bs ex S' zI' zL' a i := by
  apply List.ext_getElem?
  intro j
  rw [List.getElem?_set, fsO_len]
  by_cases hj : k = j
  · subst hj
    rw [if_pos rfl, if_pos hk, fsO_get hk, hv]
  · rw [if_neg hj]
    by_cases hl : j < NF a
    · rw [fsO_get hl, fsO_get hl]
      unfold fvO
      rw [h1 j (fun z => hj z.symm), h2 j (fun z => hj z.symm), h3 j (fun z => hj z.symm)]
    · rw [List.getElem?_eq_none (by rw [fsO_len]; omega), List.getElem?_eq_none (by rw [fsO_len]; omega)]
theorem tv_cat (bs : Nat) (ex : Nat → Nat) (v : PV) : (tv bs ex v).category = pcat v := by
  rcases v with a | a | (_ | a) <;> rfl
theorem tv_cats (bs : Nat) (ex : Nat → Nat) (st : List PV) : ((st.map (tv bs ex)).map fun v => v.category).sum = pcats st := by
  unfold pcats
  rw [List.map_map]
  congr 1
  exact List.map_congr_left fun v _ => tv_cat bs ex v
theorem clr_len (ls : List (Option PV)) (i : Nat) : (clr ls i).length = ls.length := by
  unfold clr; split
  · rfl
  · split
    · exact List.length_set
    · rfl
theorem clr_at {ls : List (Option PV)} {i j : Nat} {u : PV} (h : (clr ls i)[j]? = some (some u)) : ls[j]? = some (some u) ∧ ¬ (j + 1 = i ∧ pcat u = 2) := by
  unfold clr at h
  split at h
  · exact ⟨h, fun z => by omega⟩
  · rename_i k
    split at h
    · rename_i x hx
      rw [List.getElem?_set] at h
      by_cases hj : k = j
      · rw [if_pos hj] at h; split at h <;> simp at h
      · rw [if_neg hj] at h; exact ⟨h, fun z => hj (by omega)⟩
    · rename_i hx
      refine ⟨h, fun z => ?_⟩
      obtain ⟨z1, z2⟩ := z
      have hk : k = j := by omega
      subst hk
      rcases u with a | a | a
      · cases z2
      · exact hx _ h
      · cases z2
theorem LRO_st1 {bs : Nat} {ex : Nat → Nat} {ls : List (Option PV)} {lv : List (Nat × Value)} (h : LRO bs ex ls lv) (i : Nat) (v : PV) : LRO bs ex (st1 ls i v) ((i, tv bs ex v) :: lv.filter (fun q => !(q.1 == i) && !(q.1 + 1 == i && q.2.category == 2))) := by
  intro j u hu
  unfold st1 at hu
  rw [List.getElem?_set] at hu
  by_cases hj : i = j
  · subst hj
    rw [if_pos rfl] at hu
    split at hu
    · cases hu; exact List.mem_cons_self
    · cases hu
  · rw [if_neg hj] at hu
    obtain ⟨h1, h2⟩ := clr_at hu
    refine List.mem_cons_of_mem _ (List.mem_filter.mpr ⟨h j u h1, ?_⟩)
    rw [tv_cat]
    simp only [Bool.and_eq_true, Bool.not_eq_true', beq_eq_false_iff_ne, Bool.and_eq_false_iff, ne_eq]
    refine ⟨fun z => hj z.symm, ?_⟩
    by_cases z : j + 1 = i
    · exact Or.inr fun z2 => h2 ⟨z, z2⟩
    · exact Or.inl z
theorem LRO_st2 {bs : Nat} {ex : Nat → Nat} {ls : List (Option PV)} {lv : List (Nat × Value)} (h : LRO bs ex ls lv) (i : Nat) (v : PV) : LRO bs ex (st2 ls i v) ((i, tv bs ex v) :: lv.filter (fun q => !(q.1 == i) && (!(q.1 == i + 1) && !(q.1 + 1 == i && q.2.category == 2)))) := by
  intro j u hu
  unfold st2 at hu
  rw [List.getElem?_set] at hu
  by_cases hj1 : i + 1 = j
  · rw [if_pos hj1] at hu; split at hu <;> simp at hu
  rw [if_neg hj1, List.getElem?_set] at hu
  by_cases hj : i = j
  · subst hj
    rw [if_pos rfl] at hu
    split at hu
    · cases hu; exact List.mem_cons_self
    · cases hu
  · rw [if_neg hj] at hu
    obtain ⟨h1, h2⟩ := clr_at hu
    refine List.mem_cons_of_mem _ (List.mem_filter.mpr ⟨h j u h1, ?_⟩)
    rw [tv_cat]
    simp only [Bool.and_eq_true, Bool.not_eq_true', beq_eq_false_iff_ne, Bool.and_eq_false_iff, ne_eq]
    refine ⟨fun z => hj z.symm, fun z => hj1 z.symm, ?_⟩
    by_cases z : j + 1 = i
    · exact Or.inr fun z2 => h2 ⟨z, z2⟩
    · exact Or.inl z
theorem st1_len (ls : List (Option PV)) (i : Nat) (v : PV) : (st1 ls i v).length = ls.length := by unfold st1; rw [List.length_set, clr_len]
theorem st2_len (ls : List (Option PV)) (i : Nat) (v : PV) : (st2 ls i v).length = ls.length := by unfold st2; rw [List.length_set, List.length_set, clr_len]
theorem tv_rdF {bs : Nat} {ex : Nat → Nat} {S : SS} {zI zL : ZM} {ty : FieldType} {h : Nat} {c : Int} : tv bs ex (rdF S zI zL (tagOf ty) h c) = fvO bs ex S zI zL ty h c := by
  cases ty <;> rfl
theorem vwCl_at : ∀ a, a < 11 → vwCl[a]? = some (rN a, TF a, NF a)
  | 0, _ => rfl | 1, _ => rfl | 2, _ => rfl | 3, _ => rfl | 4, _ => rfl | 5, _ => rfl | 6, _ => rfl | 7, _ => rfl | 8, _ => rfl | 9, _ => rfl | 10, _ => rfl
  | n + 11, h => absurd h (by omega)
theorem tyF_ok : ∀ a, a < 11 → ∀ k, k < NF a → parseFieldDescriptor (TF a k).2.2.1 = some (tyF a k)
  | 0, _ => tyX0_ok | 1, _ => tyX1_ok | 2, _ => tyX2_ok | 3, _ => tyX3_ok | 4, _ => tyX4_ok | 5, _ => tyX5_ok | 6, _ => tyX6_ok | 7, _ => tyX7_ok | 8, _ => tyX8_ok | 9, _ => tyX9_ok | 10, _ => tyX10_ok
  | n + 11, h => absurd h (by omega)
theorem nmF_ok : ∀ a, a < 11 → ∀ i, i < NF a → ∀ j, j < NF a → i ≠ j → (TF a i).2.1 ≠ (TF a j).2.1
  | 0, _ => nmX0 | 1, _ => nmX1 | 2, _ => nmX2 | 3, _ => nmX3 | 4, _ => nmX4 | 5, _ => nmX5 | 6, _ => nmX6 | 7, _ => nmX7 | 8, _ => nmX8 | 9, _ => nmX9 | 10, _ => nmX10
  | n + 11, h => absurd h (by omega)
theorem decl_ok : ∀ a, a < 11 → ∀ k, k < NF a → (TF a k).1 = rN a := by decide +kernel
theorem lay_ok (a : Nat) (ha : a < 11) : ∀ w ∈ u_ws (rN a) (TF a) (NF a), w ∈ BIG := by
  intro w hw
  obtain ⟨k, hk, rfl⟩ := List.mem_map.mp hw
  have hk := List.mem_range.mp hk
  have key : ∀ a, a < 11 → ∀ k, k < NF a → LWs.any (fun e => e.1 == a && e.2.1 == k) = true := by decide +kernel
  obtain ⟨e, he, hq⟩ := List.any_eq_true.mp (key a ha k hk)
  simp only [Bool.and_eq_true, beq_iff_eq] at hq
  have := List.all_eq_true.mp LWs_ok e he
  unfold ckW at this
  rw [hq.1, hq.2] at this
  exact inT_big this
theorem LF_in {oi x a k : Nat} (h : LFs.any (fun e => e.1 == oi && e.2.1 == x && e.2.2.1 == a && e.2.2.2.1 == k) = true) : Cond.fieldLink (rN oi) x (TF a k).1 (TF a k).2.1 (TF a k).2.2.1 ∈ BIG := by
  obtain ⟨e, he, hq⟩ := List.any_eq_true.mp h
  simp only [Bool.and_eq_true, beq_iff_eq] at hq
  obtain ⟨⟨⟨q1, q2⟩, q3⟩, q4⟩ := hq
  have := List.all_eq_true.mp LFs_ok e he
  unfold ckF at this
  rw [q1, q2, q3, q4] at this
  exact inT_big this
theorem LC_in {oi x : Nat} {c : Int} (h : LCs.any (fun e => e.1 == oi && e.2.1 == x && e.2.2.1 == c) = true) : Cond.constant (rN oi) x (i3 c) ∈ BIG := by
  obtain ⟨e, he, hq⟩ := List.any_eq_true.mp h
  simp only [Bool.and_eq_true, beq_iff_eq] at hq
  obtain ⟨⟨q1, q2⟩, q3⟩ := hq
  have := List.all_eq_true.mp LCs_ok e he
  unfold ckC at this
  rw [q1, q2, q3] at this
  exact inT_big this
theorem LL_in {oi x : Nat} {c : Int} (h : LLs.any (fun e => e.1 == oi && e.2.1 == x && e.2.2.1 == c) = true) : Cond.constantLong (rN oi) x (i6 c) ∈ BIG := by
  obtain ⟨e, he, hq⟩ := List.any_eq_true.mp h
  simp only [Bool.and_eq_true, beq_iff_eq] at hq
  obtain ⟨⟨q1, q2⟩, q3⟩ := hq
  have := List.all_eq_true.mp LLs_ok e he
  unfold ckL at this
  rw [q1, q2, q3] at this
  exact inT_big this
theorem LN_in {oi x a : Nat} (h : LNs.any (fun e => e.1 == oi && e.2.1 == x && e.2.2.1 == a) = true) : a < 11 ∧ Cond.classLink (rN oi) x (rN a) ∈ BIG ∧ Cond.instantiable (rN a) (NF a) ∈ BIG ∧ Cond.initialized (rN a) ∈ BIG := by
  obtain ⟨⟨e1, e2, e3, e4, e5, e6⟩, he, hq⟩ := List.any_eq_true.mp h
  simp only [Bool.and_eq_true, beq_iff_eq] at hq
  obtain ⟨⟨q1, q2⟩, q3⟩ := hq
  have := List.all_eq_true.mp LNs_ok _ he
  unfold ckN at this
  subst q1; subst q2; subst q3
  simp only [Bool.and_eq_true, decide_eq_true_eq] at this
  exact ⟨this.2, inT_big this.1.1.1, inT_big this.1.1.2, inT_big this.1.2⟩
theorem LA_in {oi x a : Nat} (h : LAs.any (fun e => e.1 == oi && e.2.1 == x && e.2.2.1 == a) = true) : (a = 15 ∨ a = 16 ∨ a = 17) ∧ Cond.classLink (rN oi) x (arN a) ∈ BIG := by
  obtain ⟨⟨e1, e2, e3, e4⟩, he, hq⟩ := List.any_eq_true.mp h
  simp only [Bool.and_eq_true, beq_iff_eq] at hq
  obtain ⟨⟨q1, q2⟩, q3⟩ := hq
  have := List.all_eq_true.mp LAs_ok _ he
  unfold ckA at this
  subst q1; subst q2; subst q3
  simp only [Bool.and_eq_true, decide_eq_true_eq] at this
  exact ⟨this.2, inT_big this.1⟩
theorem LS_in {oi x a : Nat} (h : LSs.any (fun e => e.1 == oi && e.2.1 == x && e.2.2.1 == a) = true) : (a = 1 ∨ a = 2 ∨ a = 3) ∧ Cond.fieldLinkNest (rN oi) x "CornerCurves" (stN a) "[I" "CornerCurves" ∈ nestW := by
  obtain ⟨⟨e1, e2, e3, e4⟩, he, hq⟩ := List.any_eq_true.mp h
  simp only [Bool.and_eq_true, beq_iff_eq] at hq
  obtain ⟨⟨q1, q2⟩, q3⟩ := hq
  have := List.all_eq_true.mp LSs_ok _ he
  unfold ckS at this
  subst q1; subst q2; subst q3
  simp only [Bool.and_eq_true, decide_eq_true_eq] at this
  exact ⟨this.2, inN_nest this.1⟩
theorem i3_nat (n : Nat) : i3 (n : Int) = nI n := rfl
theorem i3_clamp {i : Int} {n : Nat} (h0 : 0 ≤ i) (h1 : i < n) (hn : n ≤ 100000) : (i3 i).toNatClampNeg = i.toNat ∧ vp_in (i3 i) n := by
  obtain ⟨k, rfl⟩ := Int.eq_ofNat_of_zero_le h0
  have hk : k < n := by omega
  refine ⟨?_, ?_⟩
  · show (nI k).toNatClampNeg = _
    rw [nI_clamp (by omega)]; rfl
  · exact vp_in_nI hk (by omega)
