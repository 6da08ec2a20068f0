theorem chkG_cut {oi : Nat} {bytes : ByteArray} {ret : Option FieldType} {ii : Bool} {pcs : List Nat} : ∀ (n : Nat) (C : List PI) (qs : List Nat), chkG oi bytes ret ii pcs (C.take n) qs = true → chkG oi bytes ret ii pcs (C.drop n) (qs.drop n) = true → chkG oi bytes ret ii pcs C qs = true
  | 0, _, _, _, h => h
  | _ + 1, [], _, h, _ => h
  | _ + 1, _ :: _, [], h, _ => h
  | n + 1, i :: r, q :: qs, h1, h2 => by
    rw [List.take_succ_cons] at h1
    unfold chkG at h1 ⊢
    rw [Bool.and_eq_true] at h1 ⊢
    exact ⟨h1.1, chkG_cut n r qs h1.2 h2⟩
theorem chk_law_0 : chkG (RC 214) (mB 214) (mR 214) ((mY 214).name == "<init>") (pcss.getD 214 []) (((MCode 214).drop 0).take 100) ((pcss.getD 214 []).drop 0) = true := by decide +kernel
theorem chk_law_100 : chkG (RC 214) (mB 214) (mR 214) ((mY 214).name == "<init>") (pcss.getD 214 []) (((MCode 214).drop 100).take 100) ((pcss.getD 214 []).drop 100) = true := by decide +kernel
theorem chk_law_200 : chkG (RC 214) (mB 214) (mR 214) ((mY 214).name == "<init>") (pcss.getD 214 []) (((MCode 214).drop 200).take 100) ((pcss.getD 214 []).drop 200) = true := by decide +kernel
theorem chk_law_300 : chkG (RC 214) (mB 214) (mR 214) ((mY 214).name == "<init>") (pcss.getD 214 []) (((MCode 214).drop 300).take 100) ((pcss.getD 214 []).drop 300) = true := by decide +kernel
theorem chk_law_400 : chkG (RC 214) (mB 214) (mR 214) ((mY 214).name == "<init>") (pcss.getD 214 []) (((MCode 214).drop 400).take 100) ((pcss.getD 214 []).drop 400) = true := by decide +kernel
theorem chk_law_500 : chkG (RC 214) (mB 214) (mR 214) ((mY 214).name == "<init>") (pcss.getD 214 []) (((MCode 214).drop 500).take 100) ((pcss.getD 214 []).drop 500) = true := by decide +kernel
theorem chk_law_600 : chkG (RC 214) (mB 214) (mR 214) ((mY 214).name == "<init>") (pcss.getD 214 []) (((MCode 214).drop 600).take 100) ((pcss.getD 214 []).drop 600) = true := by decide +kernel
theorem chk_law_700 : chkG (RC 214) (mB 214) (mR 214) ((mY 214).name == "<init>") (pcss.getD 214 []) (((MCode 214).drop 700).take 100) ((pcss.getD 214 []).drop 700) = true := by decide +kernel
theorem chk_law_800 : chkG (RC 214) (mB 214) (mR 214) ((mY 214).name == "<init>") (pcss.getD 214 []) (((MCode 214).drop 800).take 100) ((pcss.getD 214 []).drop 800) = true := by decide +kernel
theorem chk_law_900 : chkG (RC 214) (mB 214) (mR 214) ((mY 214).name == "<init>") (pcss.getD 214 []) (((MCode 214).drop 900).take 100) ((pcss.getD 214 []).drop 900) = true := by decide +kernel
theorem chk_law_1000 : chkG (RC 214) (mB 214) (mR 214) ((mY 214).name == "<init>") (pcss.getD 214 []) (((MCode 214).drop 1000).take 100) ((pcss.getD 214 []).drop 1000) = true := by decide +kernel
theorem law_end_1100 : chkG (RC 214) (mB 214) (mR 214) ((mY 214).name == "<init>") (pcss.getD 214 []) ((MCode 214).drop 1100) ((pcss.getD 214 []).drop 1100) = true := by
  rw [List.drop_eq_nil_of_le (show (MCode 214).length ≤ 1100 by decide +kernel)]; rfl
theorem law_end_1000 : chkG (RC 214) (mB 214) (mR 214) ((mY 214).name == "<init>") (pcss.getD 214 []) ((MCode 214).drop 1000) ((pcss.getD 214 []).drop 1000) = true := chkG_cut 100 _ _ chk_law_1000 (by rw [List.drop_drop, List.drop_drop]; exact law_end_1100)
theorem law_end_900 : chkG (RC 214) (mB 214) (mR 214) ((mY 214).name == "<init>") (pcss.getD 214 []) ((MCode 214).drop 900) ((pcss.getD 214 []).drop 900) = true := chkG_cut 100 _ _ chk_law_900 (by rw [List.drop_drop, List.drop_drop]; exact law_end_1000)
theorem law_end_800 : chkG (RC 214) (mB 214) (mR 214) ((mY 214).name == "<init>") (pcss.getD 214 []) ((MCode 214).drop 800) ((pcss.getD 214 []).drop 800) = true := chkG_cut 100 _ _ chk_law_800 (by rw [List.drop_drop, List.drop_drop]; exact law_end_900)
theorem law_end_700 : chkG (RC 214) (mB 214) (mR 214) ((mY 214).name == "<init>") (pcss.getD 214 []) ((MCode 214).drop 700) ((pcss.getD 214 []).drop 700) = true := chkG_cut 100 _ _ chk_law_700 (by rw [List.drop_drop, List.drop_drop]; exact law_end_800)
theorem law_end_600 : chkG (RC 214) (mB 214) (mR 214) ((mY 214).name == "<init>") (pcss.getD 214 []) ((MCode 214).drop 600) ((pcss.getD 214 []).drop 600) = true := chkG_cut 100 _ _ chk_law_600 (by rw [List.drop_drop, List.drop_drop]; exact law_end_700)
theorem law_end_500 : chkG (RC 214) (mB 214) (mR 214) ((mY 214).name == "<init>") (pcss.getD 214 []) ((MCode 214).drop 500) ((pcss.getD 214 []).drop 500) = true := chkG_cut 100 _ _ chk_law_500 (by rw [List.drop_drop, List.drop_drop]; exact law_end_600)
theorem law_end_400 : chkG (RC 214) (mB 214) (mR 214) ((mY 214).name == "<init>") (pcss.getD 214 []) ((MCode 214).drop 400) ((pcss.getD 214 []).drop 400) = true := chkG_cut 100 _ _ chk_law_400 (by rw [List.drop_drop, List.drop_drop]; exact law_end_500)
theorem law_end_300 : chkG (RC 214) (mB 214) (mR 214) ((mY 214).name == "<init>") (pcss.getD 214 []) ((MCode 214).drop 300) ((pcss.getD 214 []).drop 300) = true := chkG_cut 100 _ _ chk_law_300 (by rw [List.drop_drop, List.drop_drop]; exact law_end_400)
theorem law_end_200 : chkG (RC 214) (mB 214) (mR 214) ((mY 214).name == "<init>") (pcss.getD 214 []) ((MCode 214).drop 200) ((pcss.getD 214 []).drop 200) = true := chkG_cut 100 _ _ chk_law_200 (by rw [List.drop_drop, List.drop_drop]; exact law_end_300)
theorem law_end_100 : chkG (RC 214) (mB 214) (mR 214) ((mY 214).name == "<init>") (pcss.getD 214 []) ((MCode 214).drop 100) ((pcss.getD 214 []).drop 100) = true := chkG_cut 100 _ _ chk_law_100 (by rw [List.drop_drop, List.drop_drop]; exact law_end_200)
theorem law_end_0 : chkG (RC 214) (mB 214) (mR 214) ((mY 214).name == "<init>") (pcss.getD 214 []) ((MCode 214).drop 0) ((pcss.getD 214 []).drop 0) = true := chkG_cut 100 _ _ chk_law_0 (by rw [List.drop_drop, List.drop_drop]; exact law_end_100)
theorem chk_214 : (List.range' 214 1).all chkM = true := by
  have h : chkM 214 = true := law_end_0
  simp only [List.range', List.all_cons, List.all_nil, h, Bool.and_self]
theorem chk_all (f : Nat) (h : f < 215) : chkM f = true := by
  rcases Nat.lt_or_ge f 10 with q | q
  · exact List.all_eq_true.mp chk_0 f (List.mem_range'_1.mpr (by omega))
  rcases Nat.lt_or_ge f 20 with q | q
  · exact List.all_eq_true.mp chk_10 f (List.mem_range'_1.mpr (by omega))
  rcases Nat.lt_or_ge f 41 with q | q
  · exact List.all_eq_true.mp chk_20 f (List.mem_range'_1.mpr (by omega))
  rcases Nat.lt_or_ge f 60 with q | q
  · exact List.all_eq_true.mp chk_41 f (List.mem_range'_1.mpr (by omega))
  rcases Nat.lt_or_ge f 77 with q | q
  · exact List.all_eq_true.mp chk_60 f (List.mem_range'_1.mpr (by omega))
  rcases Nat.lt_or_ge f 92 with q | q
  · exact List.all_eq_true.mp chk_77 f (List.mem_range'_1.mpr (by omega))
  rcases Nat.lt_or_ge f 105 with q | q
  · exact List.all_eq_true.mp chk_92 f (List.mem_range'_1.mpr (by omega))
  rcases Nat.lt_or_ge f 115 with q | q
  · exact List.all_eq_true.mp chk_105 f (List.mem_range'_1.mpr (by omega))
  rcases Nat.lt_or_ge f 123 with q | q
  · exact List.all_eq_true.mp chk_115 f (List.mem_range'_1.mpr (by omega))
  rcases Nat.lt_or_ge f 129 with q | q
  · exact List.all_eq_true.mp chk_123 f (List.mem_range'_1.mpr (by omega))
  rcases Nat.lt_or_ge f 134 with q | q
  · exact List.all_eq_true.mp chk_129 f (List.mem_range'_1.mpr (by omega))
  rcases Nat.lt_or_ge f 145 with q | q
  · exact List.all_eq_true.mp chk_134 f (List.mem_range'_1.mpr (by omega))
  rcases Nat.lt_or_ge f 155 with q | q
  · exact List.all_eq_true.mp chk_145 f (List.mem_range'_1.mpr (by omega))
  rcases Nat.lt_or_ge f 162 with q | q
  · exact List.all_eq_true.mp chk_155 f (List.mem_range'_1.mpr (by omega))
  rcases Nat.lt_or_ge f 164 with q | q
  · exact List.all_eq_true.mp chk_162 f (List.mem_range'_1.mpr (by omega))
  rcases Nat.lt_or_ge f 172 with q | q
  · exact List.all_eq_true.mp chk_164 f (List.mem_range'_1.mpr (by omega))
  rcases Nat.lt_or_ge f 180 with q | q
  · exact List.all_eq_true.mp chk_172 f (List.mem_range'_1.mpr (by omega))
  rcases Nat.lt_or_ge f 185 with q | q
  · exact List.all_eq_true.mp chk_180 f (List.mem_range'_1.mpr (by omega))
  rcases Nat.lt_or_ge f 194 with q | q
  · exact List.all_eq_true.mp chk_185 f (List.mem_range'_1.mpr (by omega))
  rcases Nat.lt_or_ge f 212 with q | q
  · exact List.all_eq_true.mp chk_194 f (List.mem_range'_1.mpr (by omega))
  rcases Nat.lt_or_ge f 214 with q | q
  · exact List.all_eq_true.mp chk_212 f (List.mem_range'_1.mpr (by omega))
  exact List.all_eq_true.mp chk_214 f (List.mem_range'_1.mpr (by omega))
