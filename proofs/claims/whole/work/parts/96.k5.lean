/-! THE CONSTRUCTOR of the reference -/
theorem zp0 {z : ZM} {c : Int} (h : ∀ k, z 184 k = 0) : ∀ k, zput z 184 c 0 184 k = 0 := fun k => by unfold zput; split; rfl; exact h k
def INM (z : ZM) : Prop := (∀ k, z 184 k = 0) ∧ (∀ k, 0 ≤ k → k < 4 → z 217 k = -1) ∧ (z 218 = fun _ => 0) ∧ (z 219 = fun _ => 0)
set_option maxHeartbeats 4000000 in
theorem m_init {X : PX} {d : Nat} {S : SS} {zI zL : ZM} {Q : PQ} (hsk : SkN S 185) (hm0 : ∀ k, zI 184 k = 0) (hQ : ∀ (S' : SS) (z y : ZM), SkN S' 221 → INM z → (∀ c, c < 184 → z c = zI c) → (∀ c, c < 184 → y c = zL c) → Q none S' z y) : wpM X (d + 1) fM_init [pR 184] S zI zL Q := by
  have hl := skN_len hsk (by decide)
  have bn185 : 185 < 10000 := by decide
  have bn186 : 186 < 10000 := by decide
  have bn187 : 187 < 10000 := by decide
  have bn188 : 188 < 10000 := by decide
  have bn189 : 189 < 10000 := by decide
  have bn190 : 190 < 10000 := by decide
  have bn191 : 191 < 10000 := by decide
  have bn192 : 192 < 10000 := by decide
  have bn193 : 193 < 10000 := by decide
  have bn194 : 194 < 10000 := by decide
  have bn195 : 195 < 10000 := by decide
  have bn196 : 196 < 10000 := by decide
  have bn197 : 197 < 10000 := by decide
  have bn198 : 198 < 10000 := by decide
  have bn199 : 199 < 10000 := by decide
  have bn200 : 200 < 10000 := by decide
  have bn201 : 201 < 10000 := by decide
  have bn202 : 202 < 10000 := by decide
  have bn203 : 203 < 10000 := by decide
  have bn204 : 204 < 10000 := by decide
  have bn205 : 205 < 10000 := by decide
  have bn206 : 206 < 10000 := by decide
  have bn207 : 207 < 10000 := by decide
  have bn208 : 208 < 10000 := by decide
  have bn209 : 209 < 10000 := by decide
  have bn210 : 210 < 10000 := by decide
  have bn211 : 211 < 10000 := by decide
  have bn212 : 212 < 10000 := by decide
  have bn213 : 213 < 10000 := by decide
  have bn214 : 214 < 10000 := by decide
  have bn215 : 215 < 10000 := by decide
  have bn216 : 216 < 10000 := by decide
  have bn218 : 218 < 10000 := by decide
  have bn219 : 219 < 10000 := by decide
  have bn220 : 220 < 10000 := by decide
  have obm : ob S 184 10 := skN_ob hsk rfl (by decide)
  refine wp_in (C := c_M_init) (ls := [some (pR 184)]) rfl rfl rfl rfl rfl ?_
  have fz0 : ∀ c, c < 184 → zI c = zI c := fun c _ => rfl
  have fy0 : ∀ c, c < 184 → zL c = zL c := fun c _ => rfl
  refine r_aload_n rfl rfl ?_
  refine r_obj rfl (Nat.le_of_ble_eq_true rfl) ?_
  refine r_aload_n rfl rfl ?_
  refine r_iconst rfl ?_
  refine r_putI rfl obm ?_
  obtain ⟨z1, hz1⟩ : ∃ w, w = zput (zI) (184) 0 (0) := ⟨_, rfl⟩
  rw [← hz1]
  have hp1 : ∀ c, c ≠ 184 → z1 c = zI c := fun c hc => by rw [hz1]; exact zput_row hc
  have fz1 : ∀ c, c < 184 → z1 c = zI c := fun c h => (hp1 c (Nat.ne_of_lt (Nat.lt_of_lt_of_le h (by decide)))).trans (fz0 c h)
  have m0_1 : ∀ k, z1 184 k = 0 := fun k => by rw [hz1]; exact zp0 hm0 k
  refine r_aload_n rfl rfl ?_
  refine r_bipush rfl ?_
  refine k_newa rfl rfl (by decide) (by decide +kernel) (by decide +kernel) hl bn185 (fun S2 z2 y2 ha2 hb2 hc2 hd2 he2 hf2 => ?_)
  have hl2 : S2.1.length = 186 := by rw [ha2, List.length_append, hl]; rfl
  have obm_2 := ob_ap obm ha2
  have fz2 : ∀ c, c < 184 → z2 c = zI c := fun c h => (hc2 c (Nat.ne_of_lt (Nat.lt_of_lt_of_le h (by decide)))).trans (fz1 c h)
  have fy2 : ∀ c, c < 184 → y2 c = zL c := fun c h => (he2 c (Nat.ne_of_lt (Nat.lt_of_lt_of_le h (by decide)))).trans (fy0 c h)
  refine k_putR rfl obm_2 (fun S3 ha3 hb3 => ?_)
  have hl3 : S3.1.length = 186 := by rw [ha3]; exact hl2
  have obm_3 := ob_eq obm_2 ha3
  have sk3 : SkN S3 186 := skN_of (l := [(12, 11)]) (fun e => ¬ (e.1 = 184 ∧ e.2.1 = 1)) [(184, 1, 185)] hsk (by rw [ha3, ha2]) (by decide +kernel) (by decide +kernel) (fun e he => by rw [List.mem_singleton.mp he]; show S3.2 184 1 = _; rw [hb3, rput_a]) (fun e h1 h2 => by rw [hb3, rput_o h2, hb2])
  have m0_3 : ∀ k, z2 184 k = 0 := fun k => (congrFun (hc2 184 (by decide)) k).trans (m0_1 k)
  refine r_aload_n rfl rfl ?_
  refine r_bipush rfl ?_
  refine k_newa rfl rfl (by decide) (by decide +kernel) (by decide +kernel) hl3 bn186 (fun S4 z4 y4 ha4 hb4 hc4 hd4 he4 hf4 => ?_)
  have hl4 : S4.1.length = 187 := by rw [ha4, List.length_append, hl3]; rfl
  have obm_4 := ob_ap obm_3 ha4
  have fz4 : ∀ c, c < 184 → z4 c = zI c := fun c h => (hc4 c (Nat.ne_of_lt (Nat.lt_of_lt_of_le h (by decide)))).trans (fz2 c h)
  have fy4 : ∀ c, c < 184 → y4 c = zL c := fun c h => (he4 c (Nat.ne_of_lt (Nat.lt_of_lt_of_le h (by decide)))).trans (fy2 c h)
  refine k_putR rfl obm_4 (fun S5 ha5 hb5 => ?_)
  have hl5 : S5.1.length = 187 := by rw [ha5]; exact hl4
  have obm_5 := ob_eq obm_4 ha5
  have sk5 : SkN S5 187 := skN_of (l := [(12, 11)]) (fun e => ¬ (e.1 = 184 ∧ e.2.1 = 2)) [(184, 2, 186)] sk3 (by rw [ha5, ha4]) (by decide +kernel) (by decide +kernel) (fun e he => by rw [List.mem_singleton.mp he]; show S5.2 184 2 = _; rw [hb5, rput_a]) (fun e h1 h2 => by rw [hb5, rput_o h2, hb4])
  have m0_5 : ∀ k, z4 184 k = 0 := fun k => (congrFun (hc4 184 (by decide)) k).trans (m0_3 k)
  refine r_aload_n rfl rfl ?_
  refine r_sipush rfl ?_
  refine k_newa rfl rfl (by decide) (by decide +kernel) (by decide +kernel) hl5 bn187 (fun S6 z6 y6 ha6 hb6 hc6 hd6 he6 hf6 => ?_)
  have hl6 : S6.1.length = 188 := by rw [ha6, List.length_append, hl5]; rfl
  have obm_6 := ob_ap obm_5 ha6
  have fz6 : ∀ c, c < 184 → z6 c = zI c := fun c h => (hc6 c (Nat.ne_of_lt (Nat.lt_of_lt_of_le h (by decide)))).trans (fz4 c h)
  have fy6 : ∀ c, c < 184 → y6 c = zL c := fun c h => (he6 c (Nat.ne_of_lt (Nat.lt_of_lt_of_le h (by decide)))).trans (fy4 c h)
  refine k_putR rfl obm_6 (fun S7 ha7 hb7 => ?_)
  have hl7 : S7.1.length = 188 := by rw [ha7]; exact hl6
  have obm_7 := ob_eq obm_6 ha7
  have sk7 : SkN S7 188 := skN_of (l := [(12, 440)]) (fun e => ¬ (e.1 = 184 ∧ e.2.1 = 3)) [(184, 3, 187)] sk5 (by rw [ha7, ha6]) (by decide +kernel) (by decide +kernel) (fun e he => by rw [List.mem_singleton.mp he]; show S7.2 184 3 = _; rw [hb7, rput_a]) (fun e h1 h2 => by rw [hb7, rput_o h2, hb6])
  have m0_7 : ∀ k, z6 184 k = 0 := fun k => (congrFun (hc6 184 (by decide)) k).trans (m0_5 k)
  refine r_aload_n rfl rfl ?_
  refine r_sipush rfl ?_
  refine k_newa rfl rfl (by decide) (by decide +kernel) (by decide +kernel) hl7 bn188 (fun S8 z8 y8 ha8 hb8 hc8 hd8 he8 hf8 => ?_)
  have hl8 : S8.1.length = 189 := by rw [ha8, List.length_append, hl7]; rfl
  have obm_8 := ob_ap obm_7 ha8
  have fz8 : ∀ c, c < 184 → z8 c = zI c := fun c h => (hc8 c (Nat.ne_of_lt (Nat.lt_of_lt_of_le h (by decide)))).trans (fz6 c h)
  have fy8 : ∀ c, c < 184 → y8 c = zL c := fun c h => (he8 c (Nat.ne_of_lt (Nat.lt_of_lt_of_le h (by decide)))).trans (fy6 c h)
  refine k_putR rfl obm_8 (fun S9 ha9 hb9 => ?_)
  have hl9 : S9.1.length = 189 := by rw [ha9]; exact hl8
  have obm_9 := ob_eq obm_8 ha9
  have sk9 : SkN S9 189 := skN_of (l := [(12, 440)]) (fun e => ¬ (e.1 = 184 ∧ e.2.1 = 4)) [(184, 4, 188)] sk7 (by rw [ha9, ha8]) (by decide +kernel) (by decide +kernel) (fun e he => by rw [List.mem_singleton.mp he]; show S9.2 184 4 = _; rw [hb9, rput_a]) (fun e h1 h2 => by rw [hb9, rput_o h2, hb8])
  have m0_9 : ∀ k, z8 184 k = 0 := fun k => (congrFun (hc8 184 (by decide)) k).trans (m0_7 k)
  refine r_aload_n rfl rfl ?_
  refine r_sipush rfl ?_
  refine k_newa rfl rfl (by decide) (by decide +kernel) (by decide +kernel) hl9 bn189 (fun S10 z10 y10 ha10 hb10 hc10 hd10 he10 hf10 => ?_)
  have hl10 : S10.1.length = 190 := by rw [ha10, List.length_append, hl9]; rfl
  have obm_10 := ob_ap obm_9 ha10
  have fz10 : ∀ c, c < 184 → z10 c = zI c := fun c h => (hc10 c (Nat.ne_of_lt (Nat.lt_of_lt_of_le h (by decide)))).trans (fz8 c h)
  have fy10 : ∀ c, c < 184 → y10 c = zL c := fun c h => (he10 c (Nat.ne_of_lt (Nat.lt_of_lt_of_le h (by decide)))).trans (fy8 c h)
  refine k_putR rfl obm_10 (fun S11 ha11 hb11 => ?_)
  have hl11 : S11.1.length = 190 := by rw [ha11]; exact hl10
  have obm_11 := ob_eq obm_10 ha11
  have sk11 : SkN S11 190 := skN_of (l := [(12, 440)]) (fun e => ¬ (e.1 = 184 ∧ e.2.1 = 5)) [(184, 5, 189)] sk9 (by rw [ha11, ha10]) (by decide +kernel) (by decide +kernel) (fun e he => by rw [List.mem_singleton.mp he]; show S11.2 184 5 = _; rw [hb11, rput_a]) (fun e h1 h2 => by rw [hb11, rput_o h2, hb10])
  have m0_11 : ∀ k, z10 184 k = 0 := fun k => (congrFun (hc10 184 (by decide)) k).trans (m0_9 k)
  refine r_aload_n rfl rfl ?_
  refine r_bipush rfl ?_
  refine k_newa rfl rfl (by decide) (by decide +kernel) (by decide +kernel) hl11 bn190 (fun S12 z12 y12 ha12 hb12 hc12 hd12 he12 hf12 => ?_)
  have hl12 : S12.1.length = 191 := by rw [ha12, List.length_append, hl11]; rfl
  have obm_12 := ob_ap obm_11 ha12
  have fz12 : ∀ c, c < 184 → z12 c = zI c := fun c h => (hc12 c (Nat.ne_of_lt (Nat.lt_of_lt_of_le h (by decide)))).trans (fz10 c h)
  have fy12 : ∀ c, c < 184 → y12 c = zL c := fun c h => (he12 c (Nat.ne_of_lt (Nat.lt_of_lt_of_le h (by decide)))).trans (fy10 c h)
  refine k_putR rfl obm_12 (fun S13 ha13 hb13 => ?_)
  have hl13 : S13.1.length = 191 := by rw [ha13]; exact hl12
  have obm_13 := ob_eq obm_12 ha13
  have sk13 : SkN S13 191 := skN_of (l := [(12, 81)]) (fun e => ¬ (e.1 = 184 ∧ e.2.1 = 6)) [(184, 6, 190)] sk11 (by rw [ha13, ha12]) (by decide +kernel) (by decide +kernel) (fun e he => by rw [List.mem_singleton.mp he]; show S13.2 184 6 = _; rw [hb13, rput_a]) (fun e h1 h2 => by rw [hb13, rput_o h2, hb12])
  have m0_13 : ∀ k, z12 184 k = 0 := fun k => (congrFun (hc12 184 (by decide)) k).trans (m0_11 k)
  refine r_aload_n rfl rfl ?_
  refine r_bipush rfl ?_
  refine k_newa rfl rfl (by decide) (by decide +kernel) (by decide +kernel) hl13 bn191 (fun S14 z14 y14 ha14 hb14 hc14 hd14 he14 hf14 => ?_)
  have hl14 : S14.1.length = 192 := by rw [ha14, List.length_append, hl13]; rfl
  have obm_14 := ob_ap obm_13 ha14
  have fz14 : ∀ c, c < 184 → z14 c = zI c := fun c h => (hc14 c (Nat.ne_of_lt (Nat.lt_of_lt_of_le h (by decide)))).trans (fz12 c h)
  have fy14 : ∀ c, c < 184 → y14 c = zL c := fun c h => (he14 c (Nat.ne_of_lt (Nat.lt_of_lt_of_le h (by decide)))).trans (fy12 c h)
  refine k_putR rfl obm_14 (fun S15 ha15 hb15 => ?_)
  have hl15 : S15.1.length = 192 := by rw [ha15]; exact hl14
  have obm_15 := ob_eq obm_14 ha15
  have sk15 : SkN S15 192 := skN_of (l := [(12, 81)]) (fun e => ¬ (e.1 = 184 ∧ e.2.1 = 7)) [(184, 7, 191)] sk13 (by rw [ha15, ha14]) (by decide +kernel) (by decide +kernel) (fun e he => by rw [List.mem_singleton.mp he]; show S15.2 184 7 = _; rw [hb15, rput_a]) (fun e h1 h2 => by rw [hb15, rput_o h2, hb14])
  have m0_15 : ∀ k, z14 184 k = 0 := fun k => (congrFun (hc14 184 (by decide)) k).trans (m0_13 k)
  refine r_aload_n rfl rfl ?_
  refine r_bipush rfl ?_
  refine k_newa rfl rfl (by decide) (by decide +kernel) (by decide +kernel) hl15 bn192 (fun S16 z16 y16 ha16 hb16 hc16 hd16 he16 hf16 => ?_)
  have hl16 : S16.1.length = 193 := by rw [ha16, List.length_append, hl15]; rfl
  have obm_16 := ob_ap obm_15 ha16
  have fz16 : ∀ c, c < 184 → z16 c = zI c := fun c h => (hc16 c (Nat.ne_of_lt (Nat.lt_of_lt_of_le h (by decide)))).trans (fz14 c h)
  have fy16 : ∀ c, c < 184 → y16 c = zL c := fun c h => (he16 c (Nat.ne_of_lt (Nat.lt_of_lt_of_le h (by decide)))).trans (fy14 c h)
  refine k_putR rfl obm_16 (fun S17 ha17 hb17 => ?_)
  have hl17 : S17.1.length = 193 := by rw [ha17]; exact hl16
  have obm_17 := ob_eq obm_16 ha17
  have sk17 : SkN S17 193 := skN_of (l := [(14, 81)]) (fun e => ¬ (e.1 = 184 ∧ e.2.1 = 8)) [(184, 8, 192)] sk15 (by rw [ha17, ha16]) (by decide +kernel) (by decide +kernel) (fun e he => by rw [List.mem_singleton.mp he]; show S17.2 184 8 = _; rw [hb17, rput_a]) (fun e h1 h2 => by rw [hb17, rput_o h2, hb16])
  have m0_17 : ∀ k, z16 184 k = 0 := fun k => (congrFun (hc16 184 (by decide)) k).trans (m0_15 k)
  refine r_aload_n rfl rfl ?_
  refine r_bipush rfl ?_
  refine k_newa rfl rfl (by decide) (by decide +kernel) (by decide +kernel) hl17 bn193 (fun S18 z18 y18 ha18 hb18 hc18 hd18 he18 hf18 => ?_)
  have hl18 : S18.1.length = 194 := by rw [ha18, List.length_append, hl17]; rfl
  have obm_18 := ob_ap obm_17 ha18
  have fz18 : ∀ c, c < 184 → z18 c = zI c := fun c h => (hc18 c (Nat.ne_of_lt (Nat.lt_of_lt_of_le h (by decide)))).trans (fz16 c h)
  have fy18 : ∀ c, c < 184 → y18 c = zL c := fun c h => (he18 c (Nat.ne_of_lt (Nat.lt_of_lt_of_le h (by decide)))).trans (fy16 c h)
  refine k_putR rfl obm_18 (fun S19 ha19 hb19 => ?_)
  have hl19 : S19.1.length = 194 := by rw [ha19]; exact hl18
  have obm_19 := ob_eq obm_18 ha19
  have sk19 : SkN S19 194 := skN_of (l := [(14, 81)]) (fun e => ¬ (e.1 = 184 ∧ e.2.1 = 9)) [(184, 9, 193)] sk17 (by rw [ha19, ha18]) (by decide +kernel) (by decide +kernel) (fun e he => by rw [List.mem_singleton.mp he]; show S19.2 184 9 = _; rw [hb19, rput_a]) (fun e h1 h2 => by rw [hb19, rput_o h2, hb18])
  have m0_19 : ∀ k, z18 184 k = 0 := fun k => (congrFun (hc18 184 (by decide)) k).trans (m0_17 k)
  refine r_aload_n rfl rfl ?_
  refine r_iconst rfl ?_
  refine r_putZ rfl obm_19 (Or.inl rfl) ?_
  obtain ⟨z20, hz20⟩ : ∃ w, w = zput (z18) (184) 10 (0) := ⟨_, rfl⟩
  rw [← hz20]
  have hp20 : ∀ c, c ≠ 184 → z20 c = z18 c := fun c hc => by rw [hz20]; exact zput_row hc
  have fz20 : ∀ c, c < 184 → z20 c = zI c := fun c h => (hp20 c (Nat.ne_of_lt (Nat.lt_of_lt_of_le h (by decide)))).trans (fz18 c h)
  have m0_20 : ∀ k, z20 184 k = 0 := fun k => by rw [hz20]; exact zp0 m0_19 k
  refine r_aload_n rfl rfl ?_
  refine r_lconst rfl ?_
  refine r_putL rfl obm_19 ?_
  obtain ⟨y21, hz21⟩ : ∃ w, w = zput (y18) (184) 11 (0) := ⟨_, rfl⟩
  rw [← hz21]
  have hp21 : ∀ c, c ≠ 184 → y21 c = y18 c := fun c hc => by rw [hz21]; exact zput_row hc
  have fy21 : ∀ c, c < 184 → y21 c = zL c := fun c h => (hp21 c (Nat.ne_of_lt (Nat.lt_of_lt_of_le h (by decide)))).trans (fy18 c h)
  refine r_aload_n rfl rfl ?_
  refine r_lconst rfl ?_
  refine r_putL rfl obm_19 ?_
  obtain ⟨y22, hz22⟩ : ∃ w, w = zput (y21) (184) 12 (1) := ⟨_, rfl⟩
  rw [← hz22]
  have hp22 : ∀ c, c ≠ 184 → y22 c = y21 c := fun c hc => by rw [hz22]; exact zput_row hc
  have fy22 : ∀ c, c < 184 → y22 c = zL c := fun c h => (hp22 c (Nat.ne_of_lt (Nat.lt_of_lt_of_le h (by decide)))).trans (fy21 c h)
  refine r_aload_n rfl rfl ?_
  refine r_lconst rfl ?_
  refine r_putL rfl obm_19 ?_
  obtain ⟨y23, hz23⟩ : ∃ w, w = zput (y22) (184) 13 (0) := ⟨_, rfl⟩
  rw [← hz23]
  have hp23 : ∀ c, c ≠ 184 → y23 c = y22 c := fun c hc => by rw [hz23]; exact zput_row hc
  have fy23 : ∀ c, c < 184 → y23 c = zL c := fun c h => (hp23 c (Nat.ne_of_lt (Nat.lt_of_lt_of_le h (by decide)))).trans (fy22 c h)
  refine r_aload_n rfl rfl ?_
  refine r_lconst rfl ?_
  refine r_putL rfl obm_19 ?_
  obtain ⟨y24, hz24⟩ : ∃ w, w = zput (y23) (184) 14 (1) := ⟨_, rfl⟩
  rw [← hz24]
  have hp24 : ∀ c, c ≠ 184 → y24 c = y23 c := fun c hc => by rw [hz24]; exact zput_row hc
  have fy24 : ∀ c, c < 184 → y24 c = zL c := fun c h => (hp24 c (Nat.ne_of_lt (Nat.lt_of_lt_of_le h (by decide)))).trans (fy23 c h)
  refine r_aload_n rfl rfl ?_
  refine r_sipush rfl ?_
  refine k_newa rfl rfl (by decide) (by decide +kernel) (by decide +kernel) hl19 bn194 (fun S25 z25 y25 ha25 hb25 hc25 hd25 he25 hf25 => ?_)
  have hl25 : S25.1.length = 195 := by rw [ha25, List.length_append, hl19]; rfl
  have obm_25 := ob_ap obm_19 ha25
  have fz25 : ∀ c, c < 184 → z25 c = zI c := fun c h => (hc25 c (Nat.ne_of_lt (Nat.lt_of_lt_of_le h (by decide)))).trans (fz20 c h)
  have fy25 : ∀ c, c < 184 → y25 c = zL c := fun c h => (he25 c (Nat.ne_of_lt (Nat.lt_of_lt_of_le h (by decide)))).trans (fy24 c h)
  refine k_putR rfl obm_25 (fun S26 ha26 hb26 => ?_)
  have hl26 : S26.1.length = 195 := by rw [ha26]; exact hl25
  have obm_26 := ob_eq obm_25 ha26
  have sk26 : SkN S26 195 := skN_of (l := [(12, 1700)]) (fun e => ¬ (e.1 = 184 ∧ e.2.1 = 15)) [(184, 15, 194)] sk19 (by rw [ha26, ha25]) (by decide +kernel) (by decide +kernel) (fun e he => by rw [List.mem_singleton.mp he]; show S26.2 184 15 = _; rw [hb26, rput_a]) (fun e h1 h2 => by rw [hb26, rput_o h2, hb25])
  have m0_26 : ∀ k, z25 184 k = 0 := fun k => (congrFun (hc25 184 (by decide)) k).trans (m0_20 k)
  refine r_aload_n rfl rfl ?_
  refine r_sipush rfl ?_
  refine k_newa rfl rfl (by decide) (by decide +kernel) (by decide +kernel) hl26 bn195 (fun S27 z27 y27 ha27 hb27 hc27 hd27 he27 hf27 => ?_)
  have hl27 : S27.1.length = 196 := by rw [ha27, List.length_append, hl26]; rfl
  have obm_27 := ob_ap obm_26 ha27
  have fz27 : ∀ c, c < 184 → z27 c = zI c := fun c h => (hc27 c (Nat.ne_of_lt (Nat.lt_of_lt_of_le h (by decide)))).trans (fz25 c h)
  have fy27 : ∀ c, c < 184 → y27 c = zL c := fun c h => (he27 c (Nat.ne_of_lt (Nat.lt_of_lt_of_le h (by decide)))).trans (fy25 c h)
  refine k_putR rfl obm_27 (fun S28 ha28 hb28 => ?_)
  have hl28 : S28.1.length = 196 := by rw [ha28]; exact hl27
  have obm_28 := ob_eq obm_27 ha28
  have sk28 : SkN S28 196 := skN_of (l := [(12, 1700)]) (fun e => ¬ (e.1 = 184 ∧ e.2.1 = 16)) [(184, 16, 195)] sk26 (by rw [ha28, ha27]) (by decide +kernel) (by decide +kernel) (fun e he => by rw [List.mem_singleton.mp he]; show S28.2 184 16 = _; rw [hb28, rput_a]) (fun e h1 h2 => by rw [hb28, rput_o h2, hb27])
  have m0_28 : ∀ k, z27 184 k = 0 := fun k => (congrFun (hc27 184 (by decide)) k).trans (m0_26 k)
  refine r_aload_n rfl rfl ?_
  refine r_iconst rfl ?_
  refine r_putI rfl obm_28 ?_
  obtain ⟨z29, hz29⟩ : ∃ w, w = zput (z27) (184) 17 (0) := ⟨_, rfl⟩
  rw [← hz29]
  have hp29 : ∀ c, c ≠ 184 → z29 c = z27 c := fun c hc => by rw [hz29]; exact zput_row hc
  have fz29 : ∀ c, c < 184 → z29 c = zI c := fun c h => (hp29 c (Nat.ne_of_lt (Nat.lt_of_lt_of_le h (by decide)))).trans (fz27 c h)
  have m0_29 : ∀ k, z29 184 k = 0 := fun k => by rw [hz29]; exact zp0 m0_28 k
  refine r_aload_n rfl rfl ?_
  refine r_iconst rfl ?_
  refine r_putI rfl obm_28 ?_
  obtain ⟨z30, hz30⟩ : ∃ w, w = zput (z29) (184) 18 (0) := ⟨_, rfl⟩
  rw [← hz30]
  have hp30 : ∀ c, c ≠ 184 → z30 c = z29 c := fun c hc => by rw [hz30]; exact zput_row hc
  have fz30 : ∀ c, c < 184 → z30 c = zI c := fun c h => (hp30 c (Nat.ne_of_lt (Nat.lt_of_lt_of_le h (by decide)))).trans (fz29 c h)
  have m0_30 : ∀ k, z30 184 k = 0 := fun k => by rw [hz30]; exact zp0 m0_29 k
  refine r_aload_n rfl rfl ?_
  refine r_sipush rfl ?_
  refine k_newa rfl rfl (by decide) (by decide +kernel) (by decide +kernel) hl28 bn196 (fun S31 z31 y31 ha31 hb31 hc31 hd31 he31 hf31 => ?_)
  have hl31 : S31.1.length = 197 := by rw [ha31, List.length_append, hl28]; rfl
  have obm_31 := ob_ap obm_28 ha31
  have fz31 : ∀ c, c < 184 → z31 c = zI c := fun c h => (hc31 c (Nat.ne_of_lt (Nat.lt_of_lt_of_le h (by decide)))).trans (fz30 c h)
  have fy31 : ∀ c, c < 184 → y31 c = zL c := fun c h => (he31 c (Nat.ne_of_lt (Nat.lt_of_lt_of_le h (by decide)))).trans (fy27 c h)
  refine k_putR rfl obm_31 (fun S32 ha32 hb32 => ?_)
  have hl32 : S32.1.length = 197 := by rw [ha32]; exact hl31
  have obm_32 := ob_eq obm_31 ha32
  have sk32 : SkN S32 197 := skN_of (l := [(12, 780)]) (fun e => ¬ (e.1 = 184 ∧ e.2.1 = 19)) [(184, 19, 196)] sk28 (by rw [ha32, ha31]) (by decide +kernel) (by decide +kernel) (fun e he => by rw [List.mem_singleton.mp he]; show S32.2 184 19 = _; rw [hb32, rput_a]) (fun e h1 h2 => by rw [hb32, rput_o h2, hb31])
  have m0_32 : ∀ k, z31 184 k = 0 := fun k => (congrFun (hc31 184 (by decide)) k).trans (m0_30 k)
  refine r_aload_n rfl rfl ?_
  refine r_sipush rfl ?_
  refine k_newa rfl rfl (by decide) (by decide +kernel) (by decide +kernel) hl32 bn197 (fun S33 z33 y33 ha33 hb33 hc33 hd33 he33 hf33 => ?_)
  have hl33 : S33.1.length = 198 := by rw [ha33, List.length_append, hl32]; rfl
  have obm_33 := ob_ap obm_32 ha33
  have fz33 : ∀ c, c < 184 → z33 c = zI c := fun c h => (hc33 c (Nat.ne_of_lt (Nat.lt_of_lt_of_le h (by decide)))).trans (fz31 c h)
  have fy33 : ∀ c, c < 184 → y33 c = zL c := fun c h => (he33 c (Nat.ne_of_lt (Nat.lt_of_lt_of_le h (by decide)))).trans (fy31 c h)
  refine k_putR rfl obm_33 (fun S34 ha34 hb34 => ?_)
  have hl34 : S34.1.length = 198 := by rw [ha34]; exact hl33
  have obm_34 := ob_eq obm_33 ha34
  have sk34 : SkN S34 198 := skN_of (l := [(12, 780)]) (fun e => ¬ (e.1 = 184 ∧ e.2.1 = 20)) [(184, 20, 197)] sk32 (by rw [ha34, ha33]) (by decide +kernel) (by decide +kernel) (fun e he => by rw [List.mem_singleton.mp he]; show S34.2 184 20 = _; rw [hb34, rput_a]) (fun e h1 h2 => by rw [hb34, rput_o h2, hb33])
  have m0_34 : ∀ k, z33 184 k = 0 := fun k => (congrFun (hc33 184 (by decide)) k).trans (m0_32 k)
  refine r_aload_n rfl rfl ?_
  refine r_sipush rfl ?_
  refine k_newa rfl rfl (by decide) (by decide +kernel) (by decide +kernel) hl34 bn198 (fun S35 z35 y35 ha35 hb35 hc35 hd35 he35 hf35 => ?_)
  have hl35 : S35.1.length = 199 := by rw [ha35, List.length_append, hl34]; rfl
  have obm_35 := ob_ap obm_34 ha35
  have fz35 : ∀ c, c < 184 → z35 c = zI c := fun c h => (hc35 c (Nat.ne_of_lt (Nat.lt_of_lt_of_le h (by decide)))).trans (fz33 c h)
  have fy35 : ∀ c, c < 184 → y35 c = zL c := fun c h => (he35 c (Nat.ne_of_lt (Nat.lt_of_lt_of_le h (by decide)))).trans (fy33 c h)
  refine k_putR rfl obm_35 (fun S36 ha36 hb36 => ?_)
  have hl36 : S36.1.length = 199 := by rw [ha36]; exact hl35
  have obm_36 := ob_eq obm_35 ha36
  have sk36 : SkN S36 199 := skN_of (l := [(12, 780)]) (fun e => ¬ (e.1 = 184 ∧ e.2.1 = 21)) [(184, 21, 198)] sk34 (by rw [ha36, ha35]) (by decide +kernel) (by decide +kernel) (fun e he => by rw [List.mem_singleton.mp he]; show S36.2 184 21 = _; rw [hb36, rput_a]) (fun e h1 h2 => by rw [hb36, rput_o h2, hb35])
  have m0_36 : ∀ k, z35 184 k = 0 := fun k => (congrFun (hc35 184 (by decide)) k).trans (m0_34 k)
  refine r_aload_n rfl rfl ?_
  refine r_sipush rfl ?_
  refine k_newa rfl rfl (by decide) (by decide +kernel) (by decide +kernel) hl36 bn199 (fun S37 z37 y37 ha37 hb37 hc37 hd37 he37 hf37 => ?_)
  have hl37 : S37.1.length = 200 := by rw [ha37, List.length_append, hl36]; rfl
  have obm_37 := ob_ap obm_36 ha37
  have fz37 : ∀ c, c < 184 → z37 c = zI c := fun c h => (hc37 c (Nat.ne_of_lt (Nat.lt_of_lt_of_le h (by decide)))).trans (fz35 c h)
  have fy37 : ∀ c, c < 184 → y37 c = zL c := fun c h => (he37 c (Nat.ne_of_lt (Nat.lt_of_lt_of_le h (by decide)))).trans (fy35 c h)
  refine k_putR rfl obm_37 (fun S38 ha38 hb38 => ?_)
  have hl38 : S38.1.length = 200 := by rw [ha38]; exact hl37
  have obm_38 := ob_eq obm_37 ha38
  have sk38 : SkN S38 200 := skN_of (l := [(12, 780)]) (fun e => ¬ (e.1 = 184 ∧ e.2.1 = 22)) [(184, 22, 199)] sk36 (by rw [ha38, ha37]) (by decide +kernel) (by decide +kernel) (fun e he => by rw [List.mem_singleton.mp he]; show S38.2 184 22 = _; rw [hb38, rput_a]) (fun e h1 h2 => by rw [hb38, rput_o h2, hb37])
  have m0_38 : ∀ k, z37 184 k = 0 := fun k => (congrFun (hc37 184 (by decide)) k).trans (m0_36 k)
  refine r_aload_n rfl rfl ?_
  refine r_sipush rfl ?_
  refine k_newa rfl rfl (by decide) (by decide +kernel) (by decide +kernel) hl38 bn200 (fun S39 z39 y39 ha39 hb39 hc39 hd39 he39 hf39 => ?_)
  have hl39 : S39.1.length = 201 := by rw [ha39, List.length_append, hl38]; rfl
  have obm_39 := ob_ap obm_38 ha39
  have fz39 : ∀ c, c < 184 → z39 c = zI c := fun c h => (hc39 c (Nat.ne_of_lt (Nat.lt_of_lt_of_le h (by decide)))).trans (fz37 c h)
  have fy39 : ∀ c, c < 184 → y39 c = zL c := fun c h => (he39 c (Nat.ne_of_lt (Nat.lt_of_lt_of_le h (by decide)))).trans (fy37 c h)
  refine k_putR rfl obm_39 (fun S40 ha40 hb40 => ?_)
  have hl40 : S40.1.length = 201 := by rw [ha40]; exact hl39
  have obm_40 := ob_eq obm_39 ha40
  have sk40 : SkN S40 201 := skN_of (l := [(12, 780)]) (fun e => ¬ (e.1 = 184 ∧ e.2.1 = 23)) [(184, 23, 200)] sk38 (by rw [ha40, ha39]) (by decide +kernel) (by decide +kernel) (fun e he => by rw [List.mem_singleton.mp he]; show S40.2 184 23 = _; rw [hb40, rput_a]) (fun e h1 h2 => by rw [hb40, rput_o h2, hb39])
  have m0_40 : ∀ k, z39 184 k = 0 := fun k => (congrFun (hc39 184 (by decide)) k).trans (m0_38 k)
  refine r_aload_n rfl rfl ?_
  refine r_sipush rfl ?_
  refine k_newa rfl rfl (by decide) (by decide +kernel) (by decide +kernel) hl40 bn201 (fun S41 z41 y41 ha41 hb41 hc41 hd41 he41 hf41 => ?_)
  have hl41 : S41.1.length = 202 := by rw [ha41, List.length_append, hl40]; rfl
  have obm_41 := ob_ap obm_40 ha41
  have fz41 : ∀ c, c < 184 → z41 c = zI c := fun c h => (hc41 c (Nat.ne_of_lt (Nat.lt_of_lt_of_le h (by decide)))).trans (fz39 c h)
  have fy41 : ∀ c, c < 184 → y41 c = zL c := fun c h => (he41 c (Nat.ne_of_lt (Nat.lt_of_lt_of_le h (by decide)))).trans (fy39 c h)
  refine k_putR rfl obm_41 (fun S42 ha42 hb42 => ?_)
  have hl42 : S42.1.length = 202 := by rw [ha42]; exact hl41
  have obm_42 := ob_eq obm_41 ha42
  have sk42 : SkN S42 202 := skN_of (l := [(14, 780)]) (fun e => ¬ (e.1 = 184 ∧ e.2.1 = 24)) [(184, 24, 201)] sk40 (by rw [ha42, ha41]) (by decide +kernel) (by decide +kernel) (fun e he => by rw [List.mem_singleton.mp he]; show S42.2 184 24 = _; rw [hb42, rput_a]) (fun e h1 h2 => by rw [hb42, rput_o h2, hb41])
  have m0_42 : ∀ k, z41 184 k = 0 := fun k => (congrFun (hc41 184 (by decide)) k).trans (m0_40 k)
  refine r_aload_n rfl rfl ?_
  refine r_sipush rfl ?_
  refine k_newa rfl rfl (by decide) (by decide +kernel) (by decide +kernel) hl42 bn202 (fun S43 z43 y43 ha43 hb43 hc43 hd43 he43 hf43 => ?_)
  have hl43 : S43.1.length = 203 := by rw [ha43, List.length_append, hl42]; rfl
  have obm_43 := ob_ap obm_42 ha43
  have fz43 : ∀ c, c < 184 → z43 c = zI c := fun c h => (hc43 c (Nat.ne_of_lt (Nat.lt_of_lt_of_le h (by decide)))).trans (fz41 c h)
  have fy43 : ∀ c, c < 184 → y43 c = zL c := fun c h => (he43 c (Nat.ne_of_lt (Nat.lt_of_lt_of_le h (by decide)))).trans (fy41 c h)
  refine k_putR rfl obm_43 (fun S44 ha44 hb44 => ?_)
  have hl44 : S44.1.length = 203 := by rw [ha44]; exact hl43
  have obm_44 := ob_eq obm_43 ha44
  have sk44 : SkN S44 203 := skN_of (l := [(14, 780)]) (fun e => ¬ (e.1 = 184 ∧ e.2.1 = 25)) [(184, 25, 202)] sk42 (by rw [ha44, ha43]) (by decide +kernel) (by decide +kernel) (fun e he => by rw [List.mem_singleton.mp he]; show S44.2 184 25 = _; rw [hb44, rput_a]) (fun e h1 h2 => by rw [hb44, rput_o h2, hb43])
  have m0_44 : ∀ k, z43 184 k = 0 := fun k => (congrFun (hc43 184 (by decide)) k).trans (m0_42 k)
  refine r_aload_n rfl rfl ?_
  refine r_sipush rfl ?_
  refine k_newa rfl rfl (by decide) (by decide +kernel) (by decide +kernel) hl44 bn203 (fun S45 z45 y45 ha45 hb45 hc45 hd45 he45 hf45 => ?_)
  have hl45 : S45.1.length = 204 := by rw [ha45, List.length_append, hl44]; rfl
  have obm_45 := ob_ap obm_44 ha45
  have fz45 : ∀ c, c < 184 → z45 c = zI c := fun c h => (hc45 c (Nat.ne_of_lt (Nat.lt_of_lt_of_le h (by decide)))).trans (fz43 c h)
  have fy45 : ∀ c, c < 184 → y45 c = zL c := fun c h => (he45 c (Nat.ne_of_lt (Nat.lt_of_lt_of_le h (by decide)))).trans (fy43 c h)
  refine k_putR rfl obm_45 (fun S46 ha46 hb46 => ?_)
  have hl46 : S46.1.length = 204 := by rw [ha46]; exact hl45
  have obm_46 := ob_eq obm_45 ha46
  have sk46 : SkN S46 204 := skN_of (l := [(13, 6240)]) (fun e => ¬ (e.1 = 184 ∧ e.2.1 = 26)) [(184, 26, 203)] sk44 (by rw [ha46, ha45]) (by decide +kernel) (by decide +kernel) (fun e he => by rw [List.mem_singleton.mp he]; show S46.2 184 26 = _; rw [hb46, rput_a]) (fun e h1 h2 => by rw [hb46, rput_o h2, hb45])
  have m0_46 : ∀ k, z45 184 k = 0 := fun k => (congrFun (hc45 184 (by decide)) k).trans (m0_44 k)
  refine r_aload_n rfl rfl ?_
  refine r_iconst rfl ?_
  refine r_putZ rfl obm_46 (Or.inl rfl) ?_
  obtain ⟨z47, hz47⟩ : ∃ w, w = zput (z45) (184) 27 (0) := ⟨_, rfl⟩
  rw [← hz47]
  have hp47 : ∀ c, c ≠ 184 → z47 c = z45 c := fun c hc => by rw [hz47]; exact zput_row hc
  have fz47 : ∀ c, c < 184 → z47 c = zI c := fun c h => (hp47 c (Nat.ne_of_lt (Nat.lt_of_lt_of_le h (by decide)))).trans (fz45 c h)
  have m0_47 : ∀ k, z47 184 k = 0 := fun k => by rw [hz47]; exact zp0 m0_46 k
  refine r_aload_n rfl rfl ?_
  refine r_iconst rfl ?_
  refine r_putZ rfl obm_46 (Or.inl rfl) ?_
  obtain ⟨z48, hz48⟩ : ∃ w, w = zput (z47) (184) 28 (0) := ⟨_, rfl⟩
  rw [← hz48]
  have hp48 : ∀ c, c ≠ 184 → z48 c = z47 c := fun c hc => by rw [hz48]; exact zput_row hc
  have fz48 : ∀ c, c < 184 → z48 c = zI c := fun c h => (hp48 c (Nat.ne_of_lt (Nat.lt_of_lt_of_le h (by decide)))).trans (fz47 c h)
  have m0_48 : ∀ k, z48 184 k = 0 := fun k => by rw [hz48]; exact zp0 m0_47 k
  refine r_aload_n rfl rfl ?_
  refine r_lconst rfl ?_
  refine r_putL rfl obm_46 ?_
  obtain ⟨y49, hz49⟩ : ∃ w, w = zput (y45) (184) 29 (0) := ⟨_, rfl⟩
  rw [← hz49]
  have hp49 : ∀ c, c ≠ 184 → y49 c = y45 c := fun c hc => by rw [hz49]; exact zput_row hc
  have fy49 : ∀ c, c < 184 → y49 c = zL c := fun c h => (hp49 c (Nat.ne_of_lt (Nat.lt_of_lt_of_le h (by decide)))).trans (fy45 c h)
  refine r_aload_n rfl rfl ?_
  refine r_lconst rfl ?_
  refine r_putL rfl obm_46 ?_
  obtain ⟨y50, hz50⟩ : ∃ w, w = zput (y49) (184) 30 (1) := ⟨_, rfl⟩
  rw [← hz50]
  have hp50 : ∀ c, c ≠ 184 → y50 c = y49 c := fun c hc => by rw [hz50]; exact zput_row hc
  have fy50 : ∀ c, c < 184 → y50 c = zL c := fun c h => (hp50 c (Nat.ne_of_lt (Nat.lt_of_lt_of_le h (by decide)))).trans (fy49 c h)
  refine r_aload_n rfl rfl ?_
  refine r_lconst rfl ?_
  refine r_putL rfl obm_46 ?_
  obtain ⟨y51, hz51⟩ : ∃ w, w = zput (y50) (184) 31 (0) := ⟨_, rfl⟩
  rw [← hz51]
  have hp51 : ∀ c, c ≠ 184 → y51 c = y50 c := fun c hc => by rw [hz51]; exact zput_row hc
  have fy51 : ∀ c, c < 184 → y51 c = zL c := fun c h => (hp51 c (Nat.ne_of_lt (Nat.lt_of_lt_of_le h (by decide)))).trans (fy50 c h)
  refine r_aload_n rfl rfl ?_
  refine r_lconst rfl ?_
  refine r_putL rfl obm_46 ?_
  obtain ⟨y52, hz52⟩ : ∃ w, w = zput (y51) (184) 32 (1) := ⟨_, rfl⟩
  rw [← hz52]
  have hp52 : ∀ c, c ≠ 184 → y52 c = y51 c := fun c hc => by rw [hz52]; exact zput_row hc
  have fy52 : ∀ c, c < 184 → y52 c = zL c := fun c h => (hp52 c (Nat.ne_of_lt (Nat.lt_of_lt_of_le h (by decide)))).trans (fy51 c h)
  refine r_aload_n rfl rfl ?_
  refine r_iconst rfl ?_
  refine r_putI rfl obm_46 ?_
  obtain ⟨z53, hz53⟩ : ∃ w, w = zput (z48) (184) 33 (0) := ⟨_, rfl⟩
  rw [← hz53]
  have hp53 : ∀ c, c ≠ 184 → z53 c = z48 c := fun c hc => by rw [hz53]; exact zput_row hc
  have fz53 : ∀ c, c < 184 → z53 c = zI c := fun c h => (hp53 c (Nat.ne_of_lt (Nat.lt_of_lt_of_le h (by decide)))).trans (fz48 c h)
  have m0_53 : ∀ k, z53 184 k = 0 := fun k => by rw [hz53]; exact zp0 m0_48 k
  refine r_aload_n rfl rfl ?_
  refine r_sipush rfl ?_
  refine k_newa rfl rfl (by decide) (by decide +kernel) (by decide +kernel) hl46 bn204 (fun S54 z54 y54 ha54 hb54 hc54 hd54 he54 hf54 => ?_)
  have hl54 : S54.1.length = 205 := by rw [ha54, List.length_append, hl46]; rfl
  have obm_54 := ob_ap obm_46 ha54
  have fz54 : ∀ c, c < 184 → z54 c = zI c := fun c h => (hc54 c (Nat.ne_of_lt (Nat.lt_of_lt_of_le h (by decide)))).trans (fz53 c h)
  have fy54 : ∀ c, c < 184 → y54 c = zL c := fun c h => (he54 c (Nat.ne_of_lt (Nat.lt_of_lt_of_le h (by decide)))).trans (fy52 c h)
  refine k_putR rfl obm_54 (fun S55 ha55 hb55 => ?_)
  have hl55 : S55.1.length = 205 := by rw [ha55]; exact hl54
  have obm_55 := ob_eq obm_54 ha55
  have sk55 : SkN S55 205 := skN_of (l := [(13, 6240)]) (fun e => ¬ (e.1 = 184 ∧ e.2.1 = 34)) [(184, 34, 204)] sk46 (by rw [ha55, ha54]) (by decide +kernel) (by decide +kernel) (fun e he => by rw [List.mem_singleton.mp he]; show S55.2 184 34 = _; rw [hb55, rput_a]) (fun e h1 h2 => by rw [hb55, rput_o h2, hb54])
  have m0_55 : ∀ k, z54 184 k = 0 := fun k => (congrFun (hc54 184 (by decide)) k).trans (m0_53 k)
  refine r_aload_n rfl rfl ?_
  refine r_sipush rfl ?_
  refine k_newa rfl rfl (by decide) (by decide +kernel) (by decide +kernel) hl55 bn205 (fun S56 z56 y56 ha56 hb56 hc56 hd56 he56 hf56 => ?_)
  have hl56 : S56.1.length = 206 := by rw [ha56, List.length_append, hl55]; rfl
  have obm_56 := ob_ap obm_55 ha56
  have fz56 : ∀ c, c < 184 → z56 c = zI c := fun c h => (hc56 c (Nat.ne_of_lt (Nat.lt_of_lt_of_le h (by decide)))).trans (fz54 c h)
  have fy56 : ∀ c, c < 184 → y56 c = zL c := fun c h => (he56 c (Nat.ne_of_lt (Nat.lt_of_lt_of_le h (by decide)))).trans (fy54 c h)
  refine k_putR rfl obm_56 (fun S57 ha57 hb57 => ?_)
  have hl57 : S57.1.length = 206 := by rw [ha57]; exact hl56
  have obm_57 := ob_eq obm_56 ha57
  have sk57 : SkN S57 206 := skN_of (l := [(12, 1560)]) (fun e => ¬ (e.1 = 184 ∧ e.2.1 = 35)) [(184, 35, 205)] sk55 (by rw [ha57, ha56]) (by decide +kernel) (by decide +kernel) (fun e he => by rw [List.mem_singleton.mp he]; show S57.2 184 35 = _; rw [hb57, rput_a]) (fun e h1 h2 => by rw [hb57, rput_o h2, hb56])
  have m0_57 : ∀ k, z56 184 k = 0 := fun k => (congrFun (hc56 184 (by decide)) k).trans (m0_55 k)
  refine r_aload_n rfl rfl ?_
  refine r_iconst rfl ?_
  refine r_putI rfl obm_57 ?_
  obtain ⟨z58, hz58⟩ : ∃ w, w = zput (z56) (184) 36 (0) := ⟨_, rfl⟩
  rw [← hz58]
  have hp58 : ∀ c, c ≠ 184 → z58 c = z56 c := fun c hc => by rw [hz58]; exact zput_row hc
  have fz58 : ∀ c, c < 184 → z58 c = zI c := fun c h => (hp58 c (Nat.ne_of_lt (Nat.lt_of_lt_of_le h (by decide)))).trans (fz56 c h)
  have m0_58 : ∀ k, z58 184 k = 0 := fun k => by rw [hz58]; exact zp0 m0_57 k
  refine r_aload_n rfl rfl ?_
  refine r_sipush rfl ?_
  refine k_newa rfl rfl (by decide) (by decide +kernel) (by decide +kernel) hl57 bn206 (fun S59 z59 y59 ha59 hb59 hc59 hd59 he59 hf59 => ?_)
  have hl59 : S59.1.length = 207 := by rw [ha59, List.length_append, hl57]; rfl
  have obm_59 := ob_ap obm_57 ha59
  have fz59 : ∀ c, c < 184 → z59 c = zI c := fun c h => (hc59 c (Nat.ne_of_lt (Nat.lt_of_lt_of_le h (by decide)))).trans (fz58 c h)
  have fy59 : ∀ c, c < 184 → y59 c = zL c := fun c h => (he59 c (Nat.ne_of_lt (Nat.lt_of_lt_of_le h (by decide)))).trans (fy56 c h)
  refine k_putR rfl obm_59 (fun S60 ha60 hb60 => ?_)
  have hl60 : S60.1.length = 207 := by rw [ha60]; exact hl59
  have obm_60 := ob_eq obm_59 ha60
  have sk60 : SkN S60 207 := skN_of (l := [(12, 780)]) (fun e => ¬ (e.1 = 184 ∧ e.2.1 = 37)) [(184, 37, 206)] sk57 (by rw [ha60, ha59]) (by decide +kernel) (by decide +kernel) (fun e he => by rw [List.mem_singleton.mp he]; show S60.2 184 37 = _; rw [hb60, rput_a]) (fun e h1 h2 => by rw [hb60, rput_o h2, hb59])
  have m0_60 : ∀ k, z59 184 k = 0 := fun k => (congrFun (hc59 184 (by decide)) k).trans (m0_58 k)
  refine r_aload_n rfl rfl ?_
  refine r_sipush rfl ?_
  refine k_newa rfl rfl (by decide) (by decide +kernel) (by decide +kernel) hl60 bn207 (fun S61 z61 y61 ha61 hb61 hc61 hd61 he61 hf61 => ?_)
  have hl61 : S61.1.length = 208 := by rw [ha61, List.length_append, hl60]; rfl
  have obm_61 := ob_ap obm_60 ha61
  have fz61 : ∀ c, c < 184 → z61 c = zI c := fun c h => (hc61 c (Nat.ne_of_lt (Nat.lt_of_lt_of_le h (by decide)))).trans (fz59 c h)
  have fy61 : ∀ c, c < 184 → y61 c = zL c := fun c h => (he61 c (Nat.ne_of_lt (Nat.lt_of_lt_of_le h (by decide)))).trans (fy59 c h)
  refine k_putR rfl obm_61 (fun S62 ha62 hb62 => ?_)
  have hl62 : S62.1.length = 208 := by rw [ha62]; exact hl61
  have obm_62 := ob_eq obm_61 ha62
  have sk62 : SkN S62 208 := skN_of (l := [(12, 780)]) (fun e => ¬ (e.1 = 184 ∧ e.2.1 = 38)) [(184, 38, 207)] sk60 (by rw [ha62, ha61]) (by decide +kernel) (by decide +kernel) (fun e he => by rw [List.mem_singleton.mp he]; show S62.2 184 38 = _; rw [hb62, rput_a]) (fun e h1 h2 => by rw [hb62, rput_o h2, hb61])
  have m0_62 : ∀ k, z61 184 k = 0 := fun k => (congrFun (hc61 184 (by decide)) k).trans (m0_60 k)
  refine r_aload_n rfl rfl ?_
  refine r_sipush rfl ?_
  refine k_newa rfl rfl (by decide) (by decide +kernel) (by decide +kernel) hl62 bn208 (fun S63 z63 y63 ha63 hb63 hc63 hd63 he63 hf63 => ?_)
  have hl63 : S63.1.length = 209 := by rw [ha63, List.length_append, hl62]; rfl
  have obm_63 := ob_ap obm_62 ha63
  have fz63 : ∀ c, c < 184 → z63 c = zI c := fun c h => (hc63 c (Nat.ne_of_lt (Nat.lt_of_lt_of_le h (by decide)))).trans (fz61 c h)
  have fy63 : ∀ c, c < 184 → y63 c = zL c := fun c h => (he63 c (Nat.ne_of_lt (Nat.lt_of_lt_of_le h (by decide)))).trans (fy61 c h)
  refine k_putR rfl obm_63 (fun S64 ha64 hb64 => ?_)
  have hl64 : S64.1.length = 209 := by rw [ha64]; exact hl63
  have obm_64 := ob_eq obm_63 ha64
  have sk64 : SkN S64 209 := skN_of (l := [(12, 780)]) (fun e => ¬ (e.1 = 184 ∧ e.2.1 = 39)) [(184, 39, 208)] sk62 (by rw [ha64, ha63]) (by decide +kernel) (by decide +kernel) (fun e he => by rw [List.mem_singleton.mp he]; show S64.2 184 39 = _; rw [hb64, rput_a]) (fun e h1 h2 => by rw [hb64, rput_o h2, hb63])
  have m0_64 : ∀ k, z63 184 k = 0 := fun k => (congrFun (hc63 184 (by decide)) k).trans (m0_62 k)
  refine r_aload_n rfl rfl ?_
  refine r_sipush rfl ?_
  refine k_newa rfl rfl (by decide) (by decide +kernel) (by decide +kernel) hl64 bn209 (fun S65 z65 y65 ha65 hb65 hc65 hd65 he65 hf65 => ?_)
  have hl65 : S65.1.length = 210 := by rw [ha65, List.length_append, hl64]; rfl
  have obm_65 := ob_ap obm_64 ha65
  have fz65 : ∀ c, c < 184 → z65 c = zI c := fun c h => (hc65 c (Nat.ne_of_lt (Nat.lt_of_lt_of_le h (by decide)))).trans (fz63 c h)
  have fy65 : ∀ c, c < 184 → y65 c = zL c := fun c h => (he65 c (Nat.ne_of_lt (Nat.lt_of_lt_of_le h (by decide)))).trans (fy63 c h)
  refine k_putR rfl obm_65 (fun S66 ha66 hb66 => ?_)
  have hl66 : S66.1.length = 210 := by rw [ha66]; exact hl65
  have obm_66 := ob_eq obm_65 ha66
  have sk66 : SkN S66 210 := skN_of (l := [(12, 780)]) (fun e => ¬ (e.1 = 184 ∧ e.2.1 = 40)) [(184, 40, 209)] sk64 (by rw [ha66, ha65]) (by decide +kernel) (by decide +kernel) (fun e he => by rw [List.mem_singleton.mp he]; show S66.2 184 40 = _; rw [hb66, rput_a]) (fun e h1 h2 => by rw [hb66, rput_o h2, hb65])
  have m0_66 : ∀ k, z65 184 k = 0 := fun k => (congrFun (hc65 184 (by decide)) k).trans (m0_64 k)
  refine r_aload_n rfl rfl ?_
  refine r_sipush rfl ?_
  refine k_newa rfl rfl (by decide) (by decide +kernel) (by decide +kernel) hl66 bn210 (fun S67 z67 y67 ha67 hb67 hc67 hd67 he67 hf67 => ?_)
  have hl67 : S67.1.length = 211 := by rw [ha67, List.length_append, hl66]; rfl
  have obm_67 := ob_ap obm_66 ha67
  have fz67 : ∀ c, c < 184 → z67 c = zI c := fun c h => (hc67 c (Nat.ne_of_lt (Nat.lt_of_lt_of_le h (by decide)))).trans (fz65 c h)
  have fy67 : ∀ c, c < 184 → y67 c = zL c := fun c h => (he67 c (Nat.ne_of_lt (Nat.lt_of_lt_of_le h (by decide)))).trans (fy65 c h)
  refine k_putR rfl obm_67 (fun S68 ha68 hb68 => ?_)
  have hl68 : S68.1.length = 211 := by rw [ha68]; exact hl67
  have obm_68 := ob_eq obm_67 ha68
  have sk68 : SkN S68 211 := skN_of (l := [(12, 780)]) (fun e => ¬ (e.1 = 184 ∧ e.2.1 = 41)) [(184, 41, 210)] sk66 (by rw [ha68, ha67]) (by decide +kernel) (by decide +kernel) (fun e he => by rw [List.mem_singleton.mp he]; show S68.2 184 41 = _; rw [hb68, rput_a]) (fun e h1 h2 => by rw [hb68, rput_o h2, hb67])
  have m0_68 : ∀ k, z67 184 k = 0 := fun k => (congrFun (hc67 184 (by decide)) k).trans (m0_66 k)
  refine r_aload_n rfl rfl ?_
  refine r_sipush rfl ?_
  refine k_newa rfl rfl (by decide) (by decide +kernel) (by decide +kernel) hl68 bn211 (fun S69 z69 y69 ha69 hb69 hc69 hd69 he69 hf69 => ?_)
  have hl69 : S69.1.length = 212 := by rw [ha69, List.length_append, hl68]; rfl
  have obm_69 := ob_ap obm_68 ha69
  have fz69 : ∀ c, c < 184 → z69 c = zI c := fun c h => (hc69 c (Nat.ne_of_lt (Nat.lt_of_lt_of_le h (by decide)))).trans (fz67 c h)
  have fy69 : ∀ c, c < 184 → y69 c = zL c := fun c h => (he69 c (Nat.ne_of_lt (Nat.lt_of_lt_of_le h (by decide)))).trans (fy67 c h)
  refine k_putR rfl obm_69 (fun S70 ha70 hb70 => ?_)
  have hl70 : S70.1.length = 212 := by rw [ha70]; exact hl69
  have obm_70 := ob_eq obm_69 ha70
  have sk70 : SkN S70 212 := skN_of (l := [(14, 780)]) (fun e => ¬ (e.1 = 184 ∧ e.2.1 = 42)) [(184, 42, 211)] sk68 (by rw [ha70, ha69]) (by decide +kernel) (by decide +kernel) (fun e he => by rw [List.mem_singleton.mp he]; show S70.2 184 42 = _; rw [hb70, rput_a]) (fun e h1 h2 => by rw [hb70, rput_o h2, hb69])
  have m0_70 : ∀ k, z69 184 k = 0 := fun k => (congrFun (hc69 184 (by decide)) k).trans (m0_68 k)
  refine r_aload_n rfl rfl ?_
  refine r_iconst rfl ?_
  refine r_putI rfl obm_70 ?_
  obtain ⟨z71, hz71⟩ : ∃ w, w = zput (z69) (184) 43 (0) := ⟨_, rfl⟩
  rw [← hz71]
  have hp71 : ∀ c, c ≠ 184 → z71 c = z69 c := fun c hc => by rw [hz71]; exact zput_row hc
  have fz71 : ∀ c, c < 184 → z71 c = zI c := fun c h => (hp71 c (Nat.ne_of_lt (Nat.lt_of_lt_of_le h (by decide)))).trans (fz69 c h)
  have m0_71 : ∀ k, z71 184 k = 0 := fun k => by rw [hz71]; exact zp0 m0_70 k
  refine r_aload_n rfl rfl ?_
  refine r_sipush rfl ?_
  refine k_newa rfl rfl (by decide) (by decide +kernel) (by decide +kernel) hl70 bn212 (fun S72 z72 y72 ha72 hb72 hc72 hd72 he72 hf72 => ?_)
  have hl72 : S72.1.length = 213 := by rw [ha72, List.length_append, hl70]; rfl
  have obm_72 := ob_ap obm_70 ha72
  have fz72 : ∀ c, c < 184 → z72 c = zI c := fun c h => (hc72 c (Nat.ne_of_lt (Nat.lt_of_lt_of_le h (by decide)))).trans (fz71 c h)
  have fy72 : ∀ c, c < 184 → y72 c = zL c := fun c h => (he72 c (Nat.ne_of_lt (Nat.lt_of_lt_of_le h (by decide)))).trans (fy69 c h)
  refine k_putR rfl obm_72 (fun S73 ha73 hb73 => ?_)
  have hl73 : S73.1.length = 213 := by rw [ha73]; exact hl72
  have obm_73 := ob_eq obm_72 ha73
  have sk73 : SkN S73 213 := skN_of (l := [(13, 3200)]) (fun e => ¬ (e.1 = 184 ∧ e.2.1 = 44)) [(184, 44, 212)] sk70 (by rw [ha73, ha72]) (by decide +kernel) (by decide +kernel) (fun e he => by rw [List.mem_singleton.mp he]; show S73.2 184 44 = _; rw [hb73, rput_a]) (fun e h1 h2 => by rw [hb73, rput_o h2, hb72])
  have m0_73 : ∀ k, z72 184 k = 0 := fun k => (congrFun (hc72 184 (by decide)) k).trans (m0_71 k)
  refine r_aload_n rfl rfl ?_
  refine r_sipush rfl ?_
  refine k_newa rfl rfl (by decide) (by decide +kernel) (by decide +kernel) hl73 bn213 (fun S74 z74 y74 ha74 hb74 hc74 hd74 he74 hf74 => ?_)
  have hl74 : S74.1.length = 214 := by rw [ha74, List.length_append, hl73]; rfl
  have obm_74 := ob_ap obm_73 ha74
  have fz74 : ∀ c, c < 184 → z74 c = zI c := fun c h => (hc74 c (Nat.ne_of_lt (Nat.lt_of_lt_of_le h (by decide)))).trans (fz72 c h)
  have fy74 : ∀ c, c < 184 → y74 c = zL c := fun c h => (he74 c (Nat.ne_of_lt (Nat.lt_of_lt_of_le h (by decide)))).trans (fy72 c h)
  refine k_putR rfl obm_74 (fun S75 ha75 hb75 => ?_)
  have hl75 : S75.1.length = 214 := by rw [ha75]; exact hl74
  have obm_75 := ob_eq obm_74 ha75
  have sk75 : SkN S75 214 := skN_of (l := [(12, 800)]) (fun e => ¬ (e.1 = 184 ∧ e.2.1 = 45)) [(184, 45, 213)] sk73 (by rw [ha75, ha74]) (by decide +kernel) (by decide +kernel) (fun e he => by rw [List.mem_singleton.mp he]; show S75.2 184 45 = _; rw [hb75, rput_a]) (fun e h1 h2 => by rw [hb75, rput_o h2, hb74])
  have m0_75 : ∀ k, z74 184 k = 0 := fun k => (congrFun (hc74 184 (by decide)) k).trans (m0_73 k)
  refine r_aload_n rfl rfl ?_
  refine r_sipush rfl ?_
  refine k_newa rfl rfl (by decide) (by decide +kernel) (by decide +kernel) hl75 bn214 (fun S76 z76 y76 ha76 hb76 hc76 hd76 he76 hf76 => ?_)
  have hl76 : S76.1.length = 215 := by rw [ha76, List.length_append, hl75]; rfl
  have obm_76 := ob_ap obm_75 ha76
  have fz76 : ∀ c, c < 184 → z76 c = zI c := fun c h => (hc76 c (Nat.ne_of_lt (Nat.lt_of_lt_of_le h (by decide)))).trans (fz74 c h)
  have fy76 : ∀ c, c < 184 → y76 c = zL c := fun c h => (he76 c (Nat.ne_of_lt (Nat.lt_of_lt_of_le h (by decide)))).trans (fy74 c h)
  refine k_putR rfl obm_76 (fun S77 ha77 hb77 => ?_)
  have hl77 : S77.1.length = 215 := by rw [ha77]; exact hl76
  have obm_77 := ob_eq obm_76 ha77
  have sk77 : SkN S77 215 := skN_of (l := [(13, 10000)]) (fun e => ¬ (e.1 = 184 ∧ e.2.1 = 46)) [(184, 46, 214)] sk75 (by rw [ha77, ha76]) (by decide +kernel) (by decide +kernel) (fun e he => by rw [List.mem_singleton.mp he]; show S77.2 184 46 = _; rw [hb77, rput_a]) (fun e h1 h2 => by rw [hb77, rput_o h2, hb76])
  have m0_77 : ∀ k, z76 184 k = 0 := fun k => (congrFun (hc76 184 (by decide)) k).trans (m0_75 k)
  refine r_aload_n rfl rfl ?_
  refine r_sipush rfl ?_
  refine k_newa rfl rfl (by decide) (by decide +kernel) (by decide +kernel) hl77 bn215 (fun S78 z78 y78 ha78 hb78 hc78 hd78 he78 hf78 => ?_)
  have hl78 : S78.1.length = 216 := by rw [ha78, List.length_append, hl77]; rfl
  have obm_78 := ob_ap obm_77 ha78
  have fz78 : ∀ c, c < 184 → z78 c = zI c := fun c h => (hc78 c (Nat.ne_of_lt (Nat.lt_of_lt_of_le h (by decide)))).trans (fz76 c h)
  have fy78 : ∀ c, c < 184 → y78 c = zL c := fun c h => (he78 c (Nat.ne_of_lt (Nat.lt_of_lt_of_le h (by decide)))).trans (fy76 c h)
  refine k_putR rfl obm_78 (fun S79 ha79 hb79 => ?_)
  have hl79 : S79.1.length = 216 := by rw [ha79]; exact hl78
  have obm_79 := ob_eq obm_78 ha79
  have sk79 : SkN S79 216 := skN_of (l := [(13, 10000)]) (fun e => ¬ (e.1 = 184 ∧ e.2.1 = 47)) [(184, 47, 215)] sk77 (by rw [ha79, ha78]) (by decide +kernel) (by decide +kernel) (fun e he => by rw [List.mem_singleton.mp he]; show S79.2 184 47 = _; rw [hb79, rput_a]) (fun e h1 h2 => by rw [hb79, rput_o h2, hb78])
  have m0_79 : ∀ k, z78 184 k = 0 := fun k => (congrFun (hc78 184 (by decide)) k).trans (m0_77 k)
  refine r_aload_n rfl rfl ?_
  refine r_iconst rfl ?_
  refine r_putI rfl obm_79 ?_
  obtain ⟨z80, hz80⟩ : ∃ w, w = zput (z78) (184) 48 (0) := ⟨_, rfl⟩
  rw [← hz80]
  have hp80 : ∀ c, c ≠ 184 → z80 c = z78 c := fun c hc => by rw [hz80]; exact zput_row hc
  have fz80 : ∀ c, c < 184 → z80 c = zI c := fun c h => (hp80 c (Nat.ne_of_lt (Nat.lt_of_lt_of_le h (by decide)))).trans (fz78 c h)
  have m0_80 : ∀ k, z80 184 k = 0 := fun k => by rw [hz80]; exact zp0 m0_79 k
  refine r_aload_n rfl rfl ?_
  refine r_bipush rfl ?_
  refine k_newa rfl rfl (by decide) (by decide +kernel) (by decide +kernel) hl79 bn216 (fun S81 z81 y81 ha81 hb81 hc81 hd81 he81 hf81 => ?_)
  have hl81 : S81.1.length = 217 := by rw [ha81, List.length_append, hl79]; rfl
  have obm_81 := ob_ap obm_79 ha81
  have fz81 : ∀ c, c < 184 → z81 c = zI c := fun c h => (hc81 c (Nat.ne_of_lt (Nat.lt_of_lt_of_le h (by decide)))).trans (fz80 c h)
  have fy81 : ∀ c, c < 184 → y81 c = zL c := fun c h => (he81 c (Nat.ne_of_lt (Nat.lt_of_lt_of_le h (by decide)))).trans (fy78 c h)
  refine k_putR rfl obm_81 (fun S82 ha82 hb82 => ?_)
  have hl82 : S82.1.length = 217 := by rw [ha82]; exact hl81
  have obm_82 := ob_eq obm_81 ha82
  have sk82 : SkN S82 217 := skN_of (l := [(12, 40)]) (fun e => ¬ (e.1 = 184 ∧ e.2.1 = 49)) [(184, 49, 216)] sk79 (by rw [ha82, ha81]) (by decide +kernel) (by decide +kernel) (fun e he => by rw [List.mem_singleton.mp he]; show S82.2 184 49 = _; rw [hb82, rput_a]) (fun e h1 h2 => by rw [hb82, rput_o h2, hb81])
  have m0_82 : ∀ k, z81 184 k = 0 := fun k => (congrFun (hc81 184 (by decide)) k).trans (m0_80 k)
  refine r_aload_n rfl rfl ?_
  refine r_iconst rfl ?_
  refine r_putI rfl obm_82 ?_
  obtain ⟨z83, hz83⟩ : ∃ w, w = zput (z81) (184) 50 (0) := ⟨_, rfl⟩
  rw [← hz83]
  have hp83 : ∀ c, c ≠ 184 → z83 c = z81 c := fun c hc => by rw [hz83]; exact zput_row hc
  have fz83 : ∀ c, c < 184 → z83 c = zI c := fun c h => (hp83 c (Nat.ne_of_lt (Nat.lt_of_lt_of_le h (by decide)))).trans (fz81 c h)
  have m0_83 : ∀ k, z83 184 k = 0 := fun k => by rw [hz83]; exact zp0 m0_82 k
  refine r_aload_n rfl rfl ?_
  refine r_iconst rfl ?_
  refine k_newa rfl rfl (by decide) (by decide +kernel) (by decide +kernel) hl82 (by decide) (fun T1 u1 v1 ta1 tb1 tc1 td1 te1 tf1 => ?_)
  have tl1 : T1.1.length = 218 := by rw [ta1, List.length_append, hl82]; rfl
  have tr1 : row T1 12 217 4 := row_nw hl82 ta1 (by unfold xbase; decide) (by decide)
  have tm1 := ob_ap obm_82 ta1
  refine r_dupR rfl ?_
  refine r_iconst rfl ?_
  refine r_iconst rfl ?_
  refine r_iast rfl tr1 (by decide) (by decide) ?_
  refine r_dupR rfl ?_
  refine r_iconst rfl ?_
  refine r_iconst rfl ?_
  refine r_iast rfl tr1 (by decide) (by decide) ?_
  refine r_dupR rfl ?_
  refine r_iconst rfl ?_
  refine r_iconst rfl ?_
  refine r_iast rfl tr1 (by decide) (by decide) ?_
  refine r_dupR rfl ?_
  refine r_iconst rfl ?_
  refine r_iconst rfl ?_
  refine r_iast rfl tr1 (by decide) (by decide) ?_
  obtain ⟨u2, hu2⟩ : ∃ w, w = zput (zput (zput (zput u1 217 0 (-1)) 217 1 (-1)) 217 2 (-1)) 217 3 (-1) := ⟨_, rfl⟩
  rw [← hu2]
  have u2r : ∀ c, c ≠ 217 → u2 c = u1 c := fun c hc => by rw [hu2, zput_row hc, zput_row hc, zput_row hc, zput_row hc]
  have u2s : ∀ k, 0 ≤ k → k < 4 → u2 217 k = -1 := fun k k0 k1 => by
    rw [hu2]
    rcases (show k = 0 ∨ k = 1 ∨ k = 2 ∨ k = 3 by omega) with e | e | e | e <;> (subst e; simp (decide := true) only [zput, ↓reduceIte])
  refine k_putR rfl tm1 (fun T2 ta2 tb2 => ?_)
  have tm2 := ob_eq tm1 ta2
  have tl2 : T2.1.length = 218 := by rw [ta2]; exact tl1
  have skT : SkN T2 218 := skN_of (l := [(12, 4)]) (fun e => ¬ (e.1 = 184 ∧ e.2.1 = 51)) [(184, 51, 217)] sk82 (by rw [ta2, ta1]) (by decide +kernel) (by decide +kernel) (fun e he => by rw [List.mem_singleton.mp he]; show T2.2 184 51 = _; rw [tb2, rput_a]) (fun e h1 h2 => by rw [tb2, rput_o h2, tb1])
  have m0T : ∀ k, u2 184 k = 0 := fun k => by rw [u2r 184 (by decide), tc1 184 (by decide)]; exact m0_83 k
  have fzT : ∀ c, c < 184 → u2 c = zI c := fun c h => ((u2r c (Nat.ne_of_lt (Nat.lt_of_lt_of_le h (by decide)))).trans (tc1 c (Nat.ne_of_lt (Nat.lt_of_lt_of_le h (by decide))))).trans (fz83 c h)
  have fyT : ∀ c, c < 184 → v1 c = zL c := fun c h => (te1 c (Nat.ne_of_lt (Nat.lt_of_lt_of_le h (by decide)))).trans (fy81 c h)
  refine r_aload_n rfl rfl ?_
  refine r_iconst rfl ?_
  refine k_newa rfl rfl (by decide) (by decide +kernel) (by decide +kernel) tl2 bn218 (fun S84 z84 y84 ha84 hb84 hc84 hd84 he84 hf84 => ?_)
  have hl84 : S84.1.length = 219 := by rw [ha84, List.length_append, tl2]; rfl
  have obm_84 := ob_ap tm2 ha84
  have fz84 : ∀ c, c < 184 → z84 c = zI c := fun c h => (hc84 c (Nat.ne_of_lt (Nat.lt_of_lt_of_le h (by decide)))).trans (fzT c h)
  have fy84 : ∀ c, c < 184 → y84 c = zL c := fun c h => (he84 c (Nat.ne_of_lt (Nat.lt_of_lt_of_le h (by decide)))).trans (fyT c h)
  refine k_putR rfl obm_84 (fun S85 ha85 hb85 => ?_)
  have hl85 : S85.1.length = 219 := by rw [ha85]; exact hl84
  have obm_85 := ob_eq obm_84 ha85
  have sk85 : SkN S85 219 := skN_of (l := [(12, 4)]) (fun e => ¬ (e.1 = 184 ∧ e.2.1 = 52)) [(184, 52, 218)] skT (by rw [ha85, ha84]) (by decide +kernel) (by decide +kernel) (fun e he => by rw [List.mem_singleton.mp he]; show S85.2 184 52 = _; rw [hb85, rput_a]) (fun e h1 h2 => by rw [hb85, rput_o h2, hb84])
  have m0_85 : ∀ k, z84 184 k = 0 := fun k => (congrFun (hc84 184 (by decide)) k).trans (m0T k)
  refine r_aload_n rfl rfl ?_
  refine r_sipush rfl ?_
  refine k_newa rfl rfl (by decide) (by decide +kernel) (by decide +kernel) hl85 bn219 (fun S86 z86 y86 ha86 hb86 hc86 hd86 he86 hf86 => ?_)
  have hl86 : S86.1.length = 220 := by rw [ha86, List.length_append, hl85]; rfl
  have obm_86 := ob_ap obm_85 ha86
  have fz86 : ∀ c, c < 184 → z86 c = zI c := fun c h => (hc86 c (Nat.ne_of_lt (Nat.lt_of_lt_of_le h (by decide)))).trans (fz84 c h)
  have fy86 : ∀ c, c < 184 → y86 c = zL c := fun c h => (he86 c (Nat.ne_of_lt (Nat.lt_of_lt_of_le h (by decide)))).trans (fy84 c h)
  refine k_putR rfl obm_86 (fun S87 ha87 hb87 => ?_)
  have hl87 : S87.1.length = 220 := by rw [ha87]; exact hl86
  have obm_87 := ob_eq obm_86 ha87
  have sk87 : SkN S87 220 := skN_of (l := [(12, 160)]) (fun e => ¬ (e.1 = 184 ∧ e.2.1 = 53)) [(184, 53, 219)] sk85 (by rw [ha87, ha86]) (by decide +kernel) (by decide +kernel) (fun e he => by rw [List.mem_singleton.mp he]; show S87.2 184 53 = _; rw [hb87, rput_a]) (fun e h1 h2 => by rw [hb87, rput_o h2, hb86])
  have m0_87 : ∀ k, z86 184 k = 0 := fun k => (congrFun (hc86 184 (by decide)) k).trans (m0_85 k)
  refine r_aload_n rfl rfl ?_
  refine r_bipush rfl ?_
  refine k_newa rfl rfl (by decide) (by decide +kernel) (by decide +kernel) hl87 bn220 (fun S88 z88 y88 ha88 hb88 hc88 hd88 he88 hf88 => ?_)
  have hl88 : S88.1.length = 221 := by rw [ha88, List.length_append, hl87]; rfl
  have obm_88 := ob_ap obm_87 ha88
  have fz88 : ∀ c, c < 184 → z88 c = zI c := fun c h => (hc88 c (Nat.ne_of_lt (Nat.lt_of_lt_of_le h (by decide)))).trans (fz86 c h)
  have fy88 : ∀ c, c < 184 → y88 c = zL c := fun c h => (he88 c (Nat.ne_of_lt (Nat.lt_of_lt_of_le h (by decide)))).trans (fy86 c h)
  refine k_putR rfl obm_88 (fun S89 ha89 hb89 => ?_)
  have hl89 : S89.1.length = 221 := by rw [ha89]; exact hl88
  have obm_89 := ob_eq obm_88 ha89
  have sk89 : SkN S89 221 := skN_of (l := [(12, 40)]) (fun e => ¬ (e.1 = 184 ∧ e.2.1 = 54)) [(184, 54, 220)] sk87 (by rw [ha89, ha88]) (by decide +kernel) (by decide +kernel) (fun e he => by rw [List.mem_singleton.mp he]; show S89.2 184 54 = _; rw [hb89, rput_a]) (fun e h1 h2 => by rw [hb89, rput_o h2, hb88])
  have m0_89 : ∀ k, z88 184 k = 0 := fun k => (congrFun (hc88 184 (by decide)) k).trans (m0_87 k)
  refine r_ret rfl ?_
  refine hQ S89 z88 y88 sk89 ⟨m0_89, fun k k0 k1 => ?_, ?_, ?_⟩ fz88 fy88
  · rw [hc88 217 (by decide), hc86 217 (by decide), hc84 217 (by decide)]; exact u2s k k0 k1
  · rw [hc88 218 (by decide), hc86 218 (by decide), hd84]
  · rw [hc88 219 (by decide), hd86]
