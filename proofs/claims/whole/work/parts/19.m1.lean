abbrev fCrossing_init : Nat := 0
abbrev fCrossing_lay : Nat := 1
abbrev fCrossing_touches : Nat := 2
abbrev fCrossing_layEdges : Nat := 3
abbrev fCrossing_overlap : Nat := 4
abbrev fCrossing_beginsBefore : Nat := 5
abbrev fCrossing_holds : Nat := 6
abbrev fCrossing_note : Nat := 7
abbrev fCurve_init : Nat := 8
abbrev fCurve_draw : Nat := 9
abbrev fCurve_findStretch : Nat := 10
abbrev fCurve_raiseLow : Nat := 11
abbrev fCurve_bringDownHigh : Nat := 12
abbrev fCurve_addEdge : Nat := 13
abbrev fCurve_cornerOn : Nat := 14
abbrev fCurve_acrossI : Nat := 15
abbrev fCurve_acrossJ : Nat := 16
abbrev fCurve_level : Nat := 17
abbrev fCurve_isSmooth : Nat := 18
abbrev fCurve_weight : Nat := 19
abbrev fCurve_areaAt : Nat := 20
abbrev fCurve_countIdle : Nat := 21
abbrev fCurve_isIdle : Nat := 22
abbrev fCurve_countKind : Nat := 23
abbrev fCurve_kindOf : Nat := 24
abbrev fCurve_standsIn : Nat := 25
abbrev fCurve_directionX : Nat := 26
abbrev fCurve_directionY : Nat := 27
abbrev fCurve_countLeastAt : Nat := 28
abbrev fCurve_countEdgesAt : Nat := 29
abbrev fCurve_countRows : Nat := 30
abbrev fCurve_proofNumber : Nat := 31
abbrev fDraft_init : Nat := 32
abbrev fDraft_load : Nat := 33
abbrev fDraft_clear : Nat := 34
abbrev fDraft_putLeast : Nat := 35
abbrev fDraft_addUp : Nat := 36
abbrev fDraft_has : Nat := 37
abbrev fDraft_addTerm : Nat := 38
abbrev fDraft_fits : Nat := 39
abbrev fDraft_pour : Nat := 40
abbrev fDraft_shift : Nat := 41
abbrev fForm_init : Nat := 42
abbrev fForm_begin : Nat := 43
abbrev fForm_find : Nat := 44
abbrev fForm_put : Nat := 45
abbrev fForm_slide : Nat := 46
abbrev fForm_remove : Nat := 47
abbrev fForm_leastWorth : Nat := 48
abbrev fForm_worthOf : Nat := 49
abbrev fForm_countLeast : Nat := 50
abbrev fForm_isOfOneLetter : Nat := 51
abbrev fPoint_init : Nat := 52
abbrev fPoint_reduce : Nat := 53
abbrev fPoint_below : Nat := 54
abbrev fPoint_compareAlong : Nat := 55
abbrev fPoint_along : Nat := 56
abbrev fPoints_init : Nat := 57
abbrev fPoints_seek : Nat := 58
abbrev fPoints_compare : Nat := 59
abbrev fPoints_stands : Nat := 60
abbrev fPoints_insert : Nat := 61
abbrev fPoints_fetch : Nat := 62
abbrev fPoints_part : Nat := 63
abbrev fRing_init : Nat := 64
abbrev fRing_clear : Nat := 65
abbrev fRing_add : Nat := 66
abbrev fRing_area : Nat := 67
abbrev fRing_underChain : Nat := 68
abbrev fRing_turn : Nat := 69
abbrev fSheet_init : Nat := 70
abbrev fSheet_become : Nat := 71
abbrev fSheet_holds : Nat := 72
abbrev fTrace_init : Nat := 73
abbrev fTrace_bodyOf : Nat := 74
abbrev fTrace_begins : Nat := 75
abbrev fC_init : Nat := 76
abbrev fC_form : Nat := 77
abbrev fC_openForm : Nat := 78
abbrev fC_term : Nat := 79
abbrev fC_exists : Nat := 80
abbrev fC_within : Nat := 81
abbrev fC_take : Nat := 82
abbrev fC_findTerm : Nat := 83
abbrev fC_sum : Nat := 84
abbrev fC_openFrom : Nat := 85
abbrev fC_power : Nat := 86
abbrev fC_move : Nat := 87
abbrev fC_hide : Nat := 88
abbrev fC_isPrime : Nat := 89
abbrev fC_timesIn : Nat := 90
abbrev fC_drop : Nat := 91
abbrev fC_told : Nat := 92
abbrev fC_curveOf : Nat := 93
abbrev fC_commonDivisor : Nat := 94
abbrev fC_areaOf : Nat := 95
abbrev fC_number : Nat := 96
abbrev fC_worth : Nat := 97
abbrev fC_hasTerms : Nat := 98
abbrev fC_goTo : Nat := 99
abbrev fC_leastAt : Nat := 100
abbrev fC_idle : Nat := 101
abbrev fC_same : Nat := 102
abbrev fC_edge : Nat := 103
abbrev fC_end : Nat := 104
abbrev fC_corner : Nat := 105
abbrev fC_amount : Nat := 106
abbrev fC_meets : Nat := 107
abbrev fC_meet : Nat := 108
abbrev fC_root : Nat := 109
abbrev fC_write : Nat := 110
abbrev fC_row : Nat := 111
abbrev fC_forge : Nat := 112
abbrev fC_check : Nat := 113
abbrev fC_act : Nat := 114
abbrev fC_runBody : Nat := 115
abbrev fC_trace : Nat := 116
abbrev fC_count : Nat := 117
abbrev fC_sheet : Nat := 118
abbrev fC_cell : Nat := 119
abbrev fC_copy : Nat := 120
abbrev fC_taken : Nat := 121
abbrev fC_isUnder : Nat := 122
abbrev fM_init : Nat := 123
abbrev fM_form : Nat := 124
abbrev fM_term : Nat := 125
abbrev fM_is : Nat := 126
abbrev fM_in : Nat := 127
abbrev fM_termAt : Nat := 128
abbrev fM_insert : Nat := 129
abbrev fM_take : Nat := 130
abbrev fM_sum : Nat := 131
abbrev fM_spreadOut : Nat := 132
abbrev fM_addForm : Nat := 133
abbrev fM_gather : Nat := 134
abbrev fM_power : Nat := 135
abbrev fM_move : Nat := 136
abbrev fM_hide : Nat := 137
abbrev fM_timesIn : Nat := 138
abbrev fM_drop : Nat := 139
abbrev fM_worth : Nat := 140
abbrev fM_hasTerms : Nat := 141
abbrev fM_isPoint : Nat := 142
abbrev fM_standAt : Nat := 143
abbrev fM_lowest : Nat := 144
abbrev fM_divisor : Nat := 145
abbrev fM_leastOf : Nat := 146
abbrev fM_worthOf : Nat := 147
abbrev fM_leastAt : Nat := 148
abbrev fM_countLeast : Nat := 149
abbrev fM_told : Nat := 150
abbrev fM_areaOf : Nat := 151
abbrev fM_ringAdd : Nat := 152
abbrev fM_ringArea : Nat := 153
abbrev fM_turnOf : Nat := 154
abbrev fM_isFarther : Nat := 155
abbrev fM_idles : Nat := 156
abbrev fM_isIdle : Nat := 157
abbrev fM_isUnderTwo : Nat := 158
abbrev fM_across : Nat := 159
abbrev fM_isUnderThree : Nat := 160
abbrev fM_findCorners : Nat := 161
abbrev fM_findEdges : Nat := 162
abbrev fM_bounds : Nat := 163
abbrev fM_pointOf : Nat := 164
abbrev fM_keepCorner : Nat := 165
abbrev fM_compare : Nat := 166
abbrev fM_isSmooth : Nat := 167
abbrev fM_partArea : Nat := 168
abbrev fM_standAtCorner : Nat := 169
abbrev fM_kindOf : Nat := 170
abbrev fM_number : Nat := 171
abbrev fM_idle : Nat := 172
abbrev fM_same : Nat := 173
abbrev fM_isWithin : Nat := 174
abbrev fM_edge : Nat := 175
abbrev fM_end : Nat := 176
abbrev fM_corner : Nat := 177
abbrev fM_amount : Nat := 178
abbrev fM_meets : Nat := 179
abbrev fM_findMeets : Nat := 180
abbrev fM_isClear : Nat := 181
abbrev fM_keepEdges : Nat := 182
abbrev fM_isOneLine : Nat := 183
abbrev fM_standAtBoth : Nat := 184
abbrev fM_keepMeet : Nat := 185
abbrev fM_meet : Nat := 186
abbrev fM_root : Nat := 187
abbrev fM_write : Nat := 188
abbrev fM_prove : Nat := 189
abbrev fM_row : Nat := 190
abbrev fM_forge : Nat := 191
abbrev fM_check : Nat := 192
abbrev fM_act : Nat := 193
abbrev fM_liesOf : Nat := 194
abbrev fM_sumLies : Nat := 195
abbrev fM_body : Nat := 196
abbrev fM_formLies : Nat := 197
abbrev fM_weighsOf : Nat := 198
abbrev fM_formWeighs : Nat := 199
abbrev fM_meetsOf : Nat := 200
abbrev fM_formMeets : Nat := 201
abbrev fM_trace : Nat := 202
abbrev fM_count : Nat := 203
abbrev fM_sheet : Nat := 204
abbrev fM_cell : Nat := 205
abbrev fM_copy : Nat := 206
abbrev fM_taken : Nat := 207
abbrev fLong_compare : Nat := 208
abbrev fMath_min_II : Nat := 209
abbrev fMath_min_JJ : Nat := 210
abbrev fMath_abs : Nat := 211
abbrev fArrays_fill_AII : Nat := 212
abbrev fArrays_fill_AJJ : Nat := 213
abbrev fLaw_law : Nat := 214
theorem loop_up (P : Int → Prop) (n : Int) (step : ∀ k : Int, k ≤ n → (k < n → P (k + 1)) → P k) : ∀ k : Int, k ≤ n → P k := by
  have key : ∀ (m : Nat) (k : Int), k + m = n → P k := by
    intro m
    induction m with
    | zero => intro k hk; exact step k (by omega) (fun h => absurd h (by omega))
    | succ m ih => intro k hk; exact step k (by omega) (fun _ => ih (k + 1) (by omega))
  intro k hk
  exact key (n - k).toNat k (by omega)
theorem loop_dn (P : Int → Prop) (n : Int) (step : ∀ k : Int, n ≤ k → (n < k → P (k - 1)) → P k) : ∀ k : Int, n ≤ k → P k := by
  have key : ∀ (m : Nat) (k : Int), n + m = k → P k := by
    intro m
    induction m with
    | zero => intro k hk; exact step k (by omega) (fun h => absurd h (by omega))
    | succ m ih => intro k hk; exact step k (by omega) (fun _ => ih (k - 1) (by omega))
  intro k hk
  exact key (k - n).toNat k (by omega)
theorem w_within {X : PX} {d : Nat} {S : SS} {zI zL : ZM} {Q : PQ} {x a b : Int} (hx : inI x) (ha : inI a) (hb : inI b) (hQ : Q (some (pI (if a ≤ x ∧ x ≤ b then 1 else 0))) S zI zL) : wpM X (d + 1) fC_within [pI x, pI a, pI b] S zI zL Q := by
  refine wp_in (C := c_C_within) rfl rfl rfl rfl rfl ?_
  refine r_iload_n rfl rfl ?_
  refine r_iload_n rfl rfl ?_
  refine r_icmp_lt rfl hx ha (fun h2 => ?_) (fun h2 => ?_)
  · skip
    refine r_iconst rfl ?_
    refine r_zret rfl (by first | exact Or.inl rfl | exact Or.inr rfl) ?_
    rw [if_neg (by omega)] at hQ; exact hQ
  · skip
    refine r_iload_n rfl rfl ?_
    refine r_iload_n rfl rfl ?_
    refine r_icmp_gt rfl hx hb (fun h5 => ?_) (fun h5 => ?_)
    · skip
      refine r_iconst rfl ?_
      refine r_zret rfl (by first | exact Or.inl rfl | exact Or.inr rfl) ?_
      rw [if_neg (by omega)] at hQ; exact hQ
    · skip
      refine r_iconst rfl ?_
      refine r_goto rfl ?_
      refine r_zret rfl (by first | exact Or.inl rfl | exact Or.inr rfl) ?_
      rw [if_pos (by omega)] at hQ; exact hQ
theorem w_min {X : PX} {d : Nat} {S : SS} {zI zL : ZM} {Q : PQ} {a b : Int} (ha : inI a) (hb : inI b) (hQ : Q (some (pI (min a b))) S zI zL) : wpM X (d + 1) fMath_min_II [pI a, pI b] S zI zL Q := by
  refine wp_in (C := c_Math_min_II) rfl rfl rfl rfl rfl ?_
  refine r_iload_n rfl rfl ?_
  refine r_iload_n rfl rfl ?_
  refine r_icmp_gt rfl ha hb (fun h2 => ?_) (fun h2 => ?_)
  · skip
    refine r_iload_n rfl rfl ?_
    refine r_iret rfl ?_
    rw [show min a b = b by omega] at hQ; exact hQ
  · skip
    refine r_iload_n rfl rfl ?_
    refine r_goto rfl ?_
    refine r_iret rfl ?_
    rw [show min a b = a by omega] at hQ; exact hQ
theorem w_minL {X : PX} {d : Nat} {S : SS} {zI zL : ZM} {Q : PQ} {a b : Int} (ha : inL a) (hb : inL b) (hQ : Q (some (pL (min a b))) S zI zL) : wpM X (d + 1) fMath_min_JJ [pL a, pL b] S zI zL Q := by
  refine wp_in (C := c_Math_min_JJ) rfl rfl rfl rfl rfl ?_
  refine r_lload_n rfl rfl ?_
  refine r_lload_n rfl rfl ?_
  refine r_l_gt rfl rfl ha hb (fun h3 => ?_) (fun h3 => ?_)
  · skip
    refine r_lload_n rfl rfl ?_
    refine r_lret rfl ?_
    rw [show min a b = b by omega] at hQ; exact hQ
  · skip
    refine r_lload_n rfl rfl ?_
    refine r_goto rfl ?_
    refine r_lret rfl ?_
    rw [show min a b = a by omega] at hQ; exact hQ
theorem w_abs {X : PX} {d : Nat} {S : SS} {zI zL : ZM} {Q : PQ} {a : Int} (ha : inI a) (hQ : Q (some (pI (if 0 ≤ a then a else -a))) S zI zL) : wpM X (d + 1) fMath_abs [pI a] S zI zL Q := by
  refine wp_in (C := c_Math_abs) rfl rfl rfl rfl rfl ?_
  refine r_iload_n rfl rfl ?_
  refine r_if_ge rfl ha (fun h1 => ?_) (fun h1 => ?_)
  · skip
    refine r_iload_n rfl rfl ?_
    refine r_iret rfl ?_
    rw [if_pos (by omega)] at hQ; exact hQ
  · skip
    refine r_iload_n rfl rfl ?_
    refine r_ineg rfl ?_
    refine r_goto rfl ?_
    refine r_iret rfl ?_
    rw [if_neg (by omega)] at hQ; exact hQ
theorem w_lcompare {X : PX} {d : Nat} {S : SS} {zI zL : ZM} {Q : PQ} {a b : Int} (ha : inL a) (hb : inL b) (hQ : Q (some (pI (if a < b then -1 else if a = b then 0 else 1))) S zI zL) : wpM X (d + 1) fLong_compare [pL a, pL b] S zI zL Q := by
  refine wp_in (C := c_Long_compare) rfl rfl rfl rfl rfl ?_
  refine r_lload_n rfl rfl ?_
  refine r_lload_n rfl rfl ?_
  refine r_l_ge rfl rfl ha hb (fun h3 => ?_) (fun h3 => ?_)
  · skip
    refine r_lload_n rfl rfl ?_
    refine r_lload_n rfl rfl ?_
    refine r_l_ne rfl rfl ha hb (fun h9 => ?_) (fun h9 => ?_)
    · skip
      refine r_iconst rfl ?_
      refine r_iret rfl ?_
      rw [if_neg (by omega), if_neg (by omega)] at hQ; exact hQ
    · skip
      refine r_iconst rfl ?_
      refine r_goto rfl ?_
      refine r_iret rfl ?_
      rw [if_neg (by omega), if_pos (by omega)] at hQ; exact hQ
  · skip
    refine r_iconst rfl ?_
    refine r_goto rfl ?_
    refine r_iret rfl ?_
    rw [if_pos (by omega)] at hQ; exact hQ
/-- the first n places of a row all v -/
def zfill (z : ZM) (h : Nat) (n v : Int) : ZM := fun c k => if c = h ∧ 0 ≤ k ∧ k < n then v else z c k
theorem zfill_0 (z : ZM) (h : Nat) (v : Int) : zfill z h 0 v = z := by funext c k; unfold zfill; rw [if_neg (by omega)]
theorem zfill_s (z : ZM) (h : Nat) {n : Int} (v : Int) (hn : 0 ≤ n) : zput (zfill z h n v) h n v = zfill z h (n + 1) v := by
  funext c k
  unfold zput zfill
  by_cases h1 : c = h ∧ k = n
  · rw [if_pos h1, if_pos (by omega)]
  · rw [if_neg h1]
    by_cases h2 : c = h ∧ 0 ≤ k ∧ k < n
    · rw [if_pos h2, if_pos (by omega)]
    · rw [if_neg h2, if_neg (by omega)]
theorem w_fillI {X : PX} {d : Nat} {S : SS} {zI zL : ZM} {Q : PQ} {h n : Nat} {v : Int} (hr : row S 12 h n) (hQ : Q none S (zfill zI h n v) zL) : wpM X (d + 1) fArrays_fill_AII [pR h, pI v] S zI zL Q := by
  have hn : n ≤ 10000 := hr.2.1
  have key : ∀ k : Int, k ≤ n → 0 ≤ k → Run X d c_Arrays_fill_AII 5 [some (pR h), some (pI v), some (pI k), some (pI n)] [] S (zfill zI h k v) zL 0 0 Q := by
    refine loop_up _ n (fun k hk ih h0 => ?_)
    refine r_iload_n rfl rfl ?_
    refine r_iload_n rfl rfl ?_
    refine r_icmp_ge rfl (by unfold inI; omega) (by unfold inI; omega) (fun h7 => ?_) (fun h7 => ?_)
    · skip
      refine r_ret rfl ?_
      rw [show k = (n : Int) by omega]; exact hQ
    · skip
      refine r_aload_n rfl rfl ?_
      refine r_iload_n rfl rfl ?_
      refine r_iload_n rfl rfl ?_
      refine r_iast rfl hr (by omega) (by omega) ?_
      refine r_iinc rfl rfl ?_
      refine r_goto rfl ?_
      have := ih (by omega) (by omega)
      rw [← zfill_s _ h v h0] at this
      exact this
  refine wp_in (C := c_Arrays_fill_AII) rfl rfl rfl rfl rfl ?_
  refine r_iconst rfl ?_
  refine r_istore_n rfl (Nat.le_of_ble_eq_true rfl) ?_
  refine r_aload_n rfl rfl ?_
  refine r_alen rfl hr (by decide) ?_
  refine r_istore_n rfl (Nat.le_of_ble_eq_true rfl) ?_
  have := key 0 (by omega) (by omega)
  rw [zfill_0] at this
  exact this
theorem w_fillJ {X : PX} {d : Nat} {S : SS} {zI zL : ZM} {Q : PQ} {h n : Nat} {v : Int} (hr : row S 13 h n) (hQ : Q none S zI (zfill zL h n v)) : wpM X (d + 1) fArrays_fill_AJJ [pR h, pL v] S zI zL Q := by
  have hn : n ≤ 10000 := hr.2.1
  have key : ∀ k : Int, k ≤ n → 0 ≤ k → Run X d c_Arrays_fill_AJJ 5 [some (pR h), some (pL v), none, some (pI k), some (pI n)] [] S zI (zfill zL h k v) 0 0 Q := by
    refine loop_up _ n (fun k hk ih h0 => ?_)
    refine r_iload_n rfl rfl ?_
    refine r_iload rfl rfl ?_
    refine r_icmp_ge rfl (by unfold inI; omega) (by unfold inI; omega) (fun h7 => ?_) (fun h7 => ?_)
    · skip
      refine r_ret rfl ?_
      rw [show k = (n : Int) by omega]; exact hQ
    · skip
      refine r_aload_n rfl rfl ?_
      refine r_iload_n rfl rfl ?_
      refine r_lload_n rfl rfl ?_
      refine r_last rfl hr (by omega) (by omega) ?_
      refine r_iinc rfl rfl ?_
      refine r_goto rfl ?_
      have := ih (by omega) (by omega)
      rw [← zfill_s _ h v h0] at this
      exact this
  refine wp_in (C := c_Arrays_fill_AJJ) rfl rfl rfl rfl rfl ?_
  refine r_iconst rfl ?_
  refine r_istore_n rfl (Nat.le_of_ble_eq_true rfl) ?_
  refine r_aload_n rfl rfl ?_
  refine r_alen rfl hr (by decide) ?_
  refine r_istore rfl (Nat.le_of_ble_eq_true rfl) ?_
  have := key 0 (by omega) (by omega)
  rw [zfill_0] at this
  exact this
