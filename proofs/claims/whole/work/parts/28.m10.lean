/-! THE RING: the least ring about places, by its lower and its upper chain -/
def isRing (S : SS) (r : Nat) : Prop := ob S r 6 ∧ (row S 12 (r + 1) 81 ∧ row S 12 (r + 2) 81 ∧ row S 12 (r + 3) 81) ∧ S.2 r 0 = some (r + 1) ∧ S.2 r 1 = some (r + 2) ∧ S.2 r 2 = some (r + 3)
def RGH (z : ZM) (r : Nat) (m : Int) (I J : Int → Int) : Prop := z r 3 = m ∧ ∀ t, 0 ≤ t → t < m → z (r + 1) t = I t ∧ z (r + 2) t = J t
def RGR (m : Int) (I J : Int → Int) : Prop := 0 ≤ m ∧ m ≤ 81 ∧ ∀ t, 0 ≤ t → t < m → 0 ≤ I t ∧ I t ≤ 8 ∧ 0 ≤ J t ∧ J t ≤ 8
def trn (I J : Int → Int) (a b c : Int) : Int := (I b - I a) * (J c - J a) - (I c - I a) * (J b - J a)
theorem w_rclear {X : PX} {d : Nat} {S : SS} {zI zL : ZM} {Q : PQ} {r : Nat} (hF : isRing S r) (hQ : Q none S (zput zI r 3 0) zL) : wpM X (d + 1) fRing_clear [pR r] S zI zL Q := by
  obtain ⟨hob, -⟩ := hF
  refine wp_in (C := c_Ring_clear) (ls := [some (pR r)]) rfl rfl rfl rfl rfl ?_
  refine r_aload_n rfl rfl ?_
  refine r_iconst rfl ?_
  refine r_putI rfl (by assumption) ?_
  refine r_ret rfl ?_
  exact hQ
def radP (z z' : ZM) (r : Nat) (m : Int) (I J : Int → Int) (a b : Int) : Prop := (∀ c, c ≠ r → c ≠ r + 1 → c ≠ r + 2 → z' c = z c) ∧ RGH z' r (m + 1) (updF I m a) (updF J m b)
theorem w_radd {X : PX} {d : Nat} {S : SS} {zI zL : ZM} {Q : PQ} {r : Nat} {m a b : Int} {I J : Int → Int} (hF : isRing S r) (hT : RGH zI r m I J) (h0 : 0 ≤ m) (h1 : m < 81) (hQ : ∀ z, radP zI z r m I J a b → Q none S z zL) : wpM X (d + 1) fRing_add [pR r, pI a, pI b] S zI zL Q := by
  obtain ⟨hob, ⟨hr1, hr2, hr3⟩, hf1, hf2, hf3⟩ := hF
  obtain ⟨e3, hel⟩ := hT
  have fin : radP zI (zput (zput (zput zI (r + 1) m a) (r + 2) m b) r 3 (m + 1)) r m I J a b := by
    refine ⟨fun c c0 c1 c2 => ?_, ?_, fun t t0 t1 => ?_⟩
    · funext k; unfold zput; simp (disch := omega) only [if_pos, if_neg, ↓reduceIte, true_and, and_true, true_or, or_true, and_self]
    · unfold zput; simp (disch := omega) only [if_pos, if_neg, ↓reduceIte, true_and, and_true, true_or, or_true, and_self]
    · unfold zput updF
      by_cases e : t = m
      · subst e; simp (disch := omega) only [if_pos, if_neg, ↓reduceIte, true_and, and_true, true_or, or_true, and_self]
      · obtain ⟨g1, g2⟩ := hel t t0 (by omega)
        simp (disch := omega) only [if_pos, if_neg, ↓reduceIte, true_and, and_true, true_or, or_true, and_self]
        exact ⟨g1, g2⟩
  have e31 : zput zI (r + 1) m a r 3 = m := by unfold zput; simp (disch := omega) only [if_pos, if_neg, ↓reduceIte, true_and, and_true, true_or, or_true, and_self]; exact e3
  have e32 : zput (zput zI (r + 1) m a) (r + 2) m b r 3 = m := by unfold zput; simp (disch := omega) only [if_pos, if_neg, ↓reduceIte, true_and, and_true, true_or, or_true, and_self]; exact e3
  refine wp_in (C := c_Ring_add) (ls := [some (pR r), some (pI a), some (pI b)]) rfl rfl rfl rfl rfl ?_
  refine r_aload_n rfl rfl ?_
  refine r_getI rfl (by assumption) ?_
  refine r_bipush rfl ?_
  refine r_icmp_ge rfl (by unfold inI; omega) (by unfold inI; omega) (fun h3 => ?_) (fun h3 => ?_)
  · skip
    refine r_ret rfl ?_
    exact absurd h3 (by omega)
  · skip
    refine r_aload_n rfl rfl ?_
    refine r_getR rfl (by assumption) (by assumption) ?_
    refine r_aload_n rfl rfl ?_
    refine r_getI rfl (by assumption) ?_
    rw [e3]
    refine r_iload_n rfl rfl ?_
    refine r_iast rfl (by assumption) (by omega) (by omega) ?_
    refine r_aload_n rfl rfl ?_
    refine r_getR rfl (by assumption) (by assumption) ?_
    refine r_aload_n rfl rfl ?_
    refine r_getI rfl (by assumption) ?_
    rw [e31]
    refine r_iload_n rfl rfl ?_
    refine r_iast rfl (by assumption) (by omega) (by omega) ?_
    refine r_aload_n rfl rfl ?_
    refine r_dupR rfl ?_
    refine r_getI rfl (by assumption) ?_
    rw [e32]
    refine r_iconst rfl ?_
    refine r_iadd rfl ?_
    refine r_putI rfl (by assumption) ?_
    refine r_ret rfl ?_
    exact hQ _ fin
theorem w_turn {X : PX} {d : Nat} {S : SS} {zI zL : ZM} {Q : PQ} {r : Nat} {m a b c : Int} {I J : Int → Int} (hF : isRing S r) (hT : RGH zI r m I J) (hR : RGR m I J) (ha : 0 ≤ a ∧ a < m) (hb : 0 ≤ b ∧ b < m) (hc : 0 ≤ c ∧ c < m) (hQ : Q (some (pI (trn I J a b c))) S zI zL) : wpM X (d + 1) fRing_turn [pR r, pI a, pI b, pI c] S zI zL Q := by
  obtain ⟨hob, ⟨hr1, hr2, hr3⟩, hf1, hf2, hf3⟩ := hF
  obtain ⟨e3, hel⟩ := hT
  obtain ⟨hm0, hm1, -⟩ := hR
  obtain ⟨a1, a2⟩ := hel a ha.1 ha.2
  obtain ⟨b1, b2⟩ := hel b hb.1 hb.2
  obtain ⟨c1, c2⟩ := hel c hc.1 hc.2
  refine wp_in (C := c_Ring_turn) (ls := [some (pR r), some (pI a), some (pI b), some (pI c)]) rfl rfl rfl rfl rfl ?_
  refine r_aload_n rfl rfl ?_
  refine r_getR rfl (by assumption) (by assumption) ?_
  refine r_iload_n rfl rfl ?_
  refine r_iald rfl (by assumption) (by omega) (by omega) ?_
  refine r_aload_n rfl rfl ?_
  refine r_getR rfl (by assumption) (by assumption) ?_
  refine r_iload_n rfl rfl ?_
  refine r_iald rfl (by assumption) (by omega) (by omega) ?_
  refine r_isub rfl ?_
  refine r_aload_n rfl rfl ?_
  refine r_getR rfl (by assumption) (by assumption) ?_
  refine r_iload_n rfl rfl ?_
  refine r_iald rfl (by assumption) (by omega) (by omega) ?_
  refine r_aload_n rfl rfl ?_
  refine r_getR rfl (by assumption) (by assumption) ?_
  refine r_iload_n rfl rfl ?_
  refine r_iald rfl (by assumption) (by omega) (by omega) ?_
  refine r_isub rfl ?_
  refine r_imul rfl ?_
  refine r_aload_n rfl rfl ?_
  refine r_getR rfl (by assumption) (by assumption) ?_
  refine r_iload_n rfl rfl ?_
  refine r_iald rfl (by assumption) (by omega) (by omega) ?_
  refine r_aload_n rfl rfl ?_
  refine r_getR rfl (by assumption) (by assumption) ?_
  refine r_iload_n rfl rfl ?_
  refine r_iald rfl (by assumption) (by omega) (by omega) ?_
  refine r_isub rfl ?_
  refine r_aload_n rfl rfl ?_
  refine r_getR rfl (by assumption) (by assumption) ?_
  refine r_iload_n rfl rfl ?_
  refine r_iald rfl (by assumption) (by omega) (by omega) ?_
  refine r_aload_n rfl rfl ?_
  refine r_getR rfl (by assumption) (by assumption) ?_
  refine r_iload_n rfl rfl ?_
  refine r_iald rfl (by assumption) (by omega) (by omega) ?_
  refine r_isub rfl ?_
  refine r_imul rfl ?_
  refine r_isub rfl ?_
  refine r_iret rfl ?_
  rw [a1, a2, b1, b2, c1, c2]; exact hQ
theorem trn_b {m a b c : Int} {I J : Int → Int} (hR : RGR m I J) (ha : 0 ≤ a ∧ a < m) (hb : 0 ≤ b ∧ b < m) (hc : 0 ≤ c ∧ c < m) : -128 ≤ trn I J a b c ∧ trn I J a b c ≤ 128 := by
  have h1 := hR.2.2 a ha.1 ha.2
  have h2 := hR.2.2 b hb.1 hb.2
  have h3 := hR.2.2 c hc.1 hc.2
  have a1 := mb (a := I b - I a) (b := J c - J a) (A := 8) (B := 8) (by omega) (by omega) (by omega) (by omega)
  have a2 := mb (a := I c - I a) (b := J b - J a) (A := 8) (B := 8) (by omega) (by omega) (by omega) (by omega)
  unfold trn; omega
/-- a chain, its last place first -/
def popW (s : Int) (I J : Int → Int) (k : Int) : List Int → List Int
  | b :: a :: r => if s * trn I J a b k ≤ 0 then popW s I J k (a :: r) else b :: a :: r
  | l => l
def chW (s : Int) (I J : Int → Int) : Nat → Int → List Int → List Int
  | 0, _, l => l
  | m + 1, k, l => chW s I J m (k + 1) (k :: popW s I J k l)
def chn (s m : Int) (I J : Int → Int) : List Int := chW s I J m.toNat 0 []
def arS (I J : Int → Int) : List Int → Int
  | b :: a :: r => arS I J (a :: r) + (I a * J b - I b * J a)
  | _ => 0
def areaR (m : Int) (I J : Int → Int) : Int := arS I J (chn 1 m I J) - arS I J (chn (-1) m I J)
def chH (z : ZM) (a : Nat) : List Int → Prop
  | [] => True
  | x :: l => z a (l.length : Int) = x ∧ chH z a l
theorem chH_put {z : ZM} {a : Nat} {k x : Int} : ∀ {l : List Int}, (l.length : Int) ≤ k → chH z a l → chH (zput z a k x) a l
  | [], _, _ => trivial
  | y :: l, h, hl => by
    have h' : (l.length : Int) + 1 ≤ k := by simpa using h
    exact ⟨by rw [zput_off (by omega)]; exact hl.1, chH_put (by omega) hl.2⟩
theorem chH_app {z : ZM} {a : Nat} : ∀ {p r : List Int}, chH z a (p ++ r) → chH z a r
  | [], _, h => h
  | _ :: p, _, h => chH_app (p := p) h.2
theorem popW_in {s : Int} {I J : Int → Int} {k : Int} : ∀ {l : List Int} {x : Int}, x ∈ popW s I J k l → x ∈ l
  | [], _, h => h
  | [_], _, h => h
  | b :: a :: r, x, h => by
    unfold popW at h
    split at h
    · exact List.mem_cons_of_mem _ (popW_in h)
    · exact h
theorem popW_len {s : Int} {I J : Int → Int} {k : Int} : ∀ {l : List Int}, (popW s I J k l).length ≤ l.length
  | [] => Nat.le_refl _
  | [_] => Nat.le_refl _
  | b :: a :: r => by
    unfold popW
    split
    · have := popW_len (s := s) (I := I) (J := J) (k := k) (l := a :: r); simp only [List.length_cons] at this ⊢; omega
    · exact Nat.le_refl _
theorem chW_s {s : Int} {I J : Int → Int} {m k : Int} {l : List Int} (h : k < m) : chW s I J (m - k).toNat k l = chW s I J (m - (k + 1)).toNat (k + 1) (k :: popW s I J k l) := by
  rw [show (m - k).toNat = (m - (k + 1)).toNat + 1 by omega]; rfl
theorem chW_e {s : Int} {I J : Int → Int} {m k : Int} {l : List Int} (h : m ≤ k) : chW s I J (m - k).toNat k l = l := by rw [show (m - k).toNat = 0 by omega]; rfl
theorem arS_b {m : Int} {I J : Int → Int} (hR : RGR m I J) : ∀ l : List Int, (∀ x ∈ l, 0 ≤ x ∧ x < m) → -(64 * (l.length : Int)) ≤ arS I J l ∧ arS I J l ≤ 64 * (l.length : Int)
  | [], _ => by unfold arS; simp
  | [_], _ => by unfold arS; simp
  | b :: a :: r, h => by
    have ih := arS_b hR (a :: r) (fun x hx => h x (List.mem_cons_of_mem _ hx))
    have ha := h a (by simp)
    have hb := h b (by simp)
    have g1 := hR.2.2 a ha.1 ha.2
    have g2 := hR.2.2 b hb.1 hb.2
    have a1 := mb (a := I a) (b := J b) (A := 8) (B := 8) (by omega) (by omega) (by omega) (by omega)
    have a2 := mb (a := I b) (b := J a) (A := 8) (B := 8) (by omega) (by omega) (by omega) (by omega)
    have n1 := Int.mul_nonneg g1.1 g2.2.2.1
    have n2 := Int.mul_nonneg g2.1 g1.2.2.1
    unfold arS
    simp only [List.length_cons] at ih ⊢
    omega
set_option maxHeartbeats 4000000 in
theorem w_chain {X : PX} {d : Nat} {S : SS} {zI zL : ZM} {Q : PQ} {r : Nat} {m s : Int} {I J : Int → Int} (hF : isRing S r) (hT : RGH zI r m I J) (hR : RGR m I J) (hs : s = 1 ∨ s = -1) (hQ : ∀ z, (∀ c, c ≠ r + 3 → z c = zI c) → Q (some (pI (arS I J (chn s m I J)))) S z zL) : wpM X (d + 2) fRing_underChain [pR r, pI s] S zI zL Q := by
  have hF0 := hF
  obtain ⟨hob, ⟨hr1, hr2, hr3⟩, hf1, hf2, hf3⟩ := hF
  obtain ⟨hm0, hm1, hrg⟩ := hR
  have hR0 : RGR m I J := ⟨hm0, hm1, hrg⟩
  have hfr : ∀ z : ZM, (∀ c, c ≠ r + 3 → z c = zI c) → RGH z r m I J := fun z hz => by
    unfold RGH
    rw [hz r (by omega), hz (r + 1) (by omega), hz (r + 2) (by omega)]
    exact hT
  have sum : ∀ (z : ZM) (L : List Int), (∀ c, c ≠ r + 3 → z c = zI c) → chH z (r + 3) L → (∀ x ∈ L, 0 ≤ x ∧ x < m) → (L.length : Int) ≤ m → L = chn s m I J → ∀ (q p : List Int), L = q.reverse ++ p → p ≠ [] → ∀ x y : Option PV, (∀ v, x ≠ some (pL v)) → (∀ v, y ≠ some (pL v)) →
      Run X (d + 1) c_Ring_underChain 43 [some (pR r), some (pI s), some (pI (L.length : Int)), some (pI (arS I J p)), some (pI (p.length : Int)), x, y] [] S z zL 0 0 Q := by
    intro z L hz hc hx hlen hL q
    obtain ⟨e3, hel⟩ := hfr z hz
    induction q with
    | nil =>
      intro p hp hp0 x y hx1 hy1
      have hp : L = p := hp
      have hpl : (p.length : Int) = L.length := by rw [hp]
      have hab := arS_b hR0 L hx
      refine r_iload rfl rfl ?_
      refine r_iload_n rfl rfl ?_
      refine r_icmp_ge rfl (by unfold inI; omega) (by unfold inI; omega) (fun h45 => ?_) (fun h45 => ?_)
      · skip
        refine r_iload_n rfl rfl ?_
        refine r_iret rfl ?_
        rw [← hp, hL]; exact hQ _ hz
      · skip
        exact absurd h45 (by rw [hp]; omega)
    | cons b q ih =>
      intro p hp hp0 x y hx1 hy1
      have hp : L = q.reverse ++ (b :: p) := by rw [hp]; simp
      cases p with
      | nil => exact absurd rfl hp0
      | cons a p =>
        have hc2 : chH z (r + 3) (b :: a :: p) := chH_app (p := q.reverse) (by rw [← hp]; exact hc)
        obtain ⟨cb, ca, -⟩ := hc2
        have hb := hx b (by rw [hp]; simp)
        have ha := hx a (by rw [hp]; simp)
        obtain ⟨a1, a2⟩ := hel a ha.1 ha.2
        obtain ⟨b1, b2⟩ := hel b hb.1 hb.2
        have hll : (L.length : Int) = q.length + 1 + (p.length + 1) := by rw [hp]; simp; omega
        have hpl : ((a :: p).length : Int) = p.length + 1 := by simp
        have ca' : z (r + 3) ((p.length : Int) + 1 - 1) = a := by rw [show (p.length : Int) + 1 - 1 = p.length by omega]; exact ca
        have cb' : z (r + 3) ((p.length : Int) + 1) = b := by rw [← hpl]; exact cb
        rw [hpl]
        refine r_iload rfl rfl ?_
        refine r_iload_n rfl rfl ?_
        refine r_icmp_ge rfl (by unfold inI; omega) (by unfold inI; omega) (fun h45 => ?_) (fun h45 => ?_)
        · skip
          exact absurd h45 (by omega)
        · skip
          refine r_aload_n rfl rfl ?_
          refine r_getR rfl (by assumption) (by assumption) ?_
          refine r_iload rfl rfl ?_
          refine r_iconst rfl ?_
          refine r_isub rfl ?_
          refine r_iald rfl (by assumption) (by omega) (by omega) ?_
          rw [ca']
          refine r_istore rfl (Nat.le_of_ble_eq_true rfl) ?_
          refine r_aload_n rfl rfl ?_
          refine r_getR rfl (by assumption) (by assumption) ?_
          refine r_iload rfl rfl ?_
          refine r_iald rfl (by assumption) (by omega) (by omega) ?_
          rw [cb']
          refine r_istore rfl (Nat.le_of_ble_eq_true rfl) ?_
          refine r_iload_n rfl rfl ?_
          refine r_aload_n rfl rfl ?_
          refine r_getR rfl (by assumption) (by assumption) ?_
          refine r_iload rfl rfl ?_
          refine r_iald rfl (by assumption) (by omega) (by omega) ?_
          rw [a1]
          refine r_aload_n rfl rfl ?_
          refine r_getR rfl (by assumption) (by assumption) ?_
          refine r_iload rfl rfl ?_
          refine r_iald rfl (by assumption) (by omega) (by omega) ?_
          rw [b2]
          refine r_imul rfl ?_
          refine r_aload_n rfl rfl ?_
          refine r_getR rfl (by assumption) (by assumption) ?_
          refine r_iload rfl rfl ?_
          refine r_iald rfl (by assumption) (by omega) (by omega) ?_
          rw [b1]
          refine r_aload_n rfl rfl ?_
          refine r_getR rfl (by assumption) (by assumption) ?_
          refine r_iload rfl rfl ?_
          refine r_iald rfl (by assumption) (by omega) (by omega) ?_
          rw [a2]
          refine r_imul rfl ?_
          refine r_isub rfl ?_
          refine r_iadd rfl ?_
          refine r_istore_n rfl (Nat.le_of_ble_eq_true rfl) ?_
          refine r_iinc rfl rfl ?_
          refine r_goto rfl ?_
          have := ih (b :: a :: p) hp (by simp) (some (pI a)) (some (pI b)) (fun v h => by cases h) (fun v h => by cases h)
          rw [show ((b :: a :: p).length : Int) = (p.length : Int) + 1 + 1 by simp] at this
          exact this
  have key : ∀ k : Int, k ≤ m → 0 ≤ k → ∀ (z : ZM) (L : List Int), (∀ c, c ≠ r + 3 → z c = zI c) → chH z (r + 3) L → (∀ x ∈ L, 0 ≤ x ∧ x < k) → (L.length : Int) ≤ k → (k > 0 → L ≠ []) → chW s I J (m - k).toNat k L = chn s m I J → Run X (d + 1) c_Ring_underChain 4 [some (pR r), some (pI s), some (pI (L.length : Int)), some (pI k), none, none, none] [] S z zL 0 0 Q := by
    refine loop_up _ m (fun k hk ih h0 z L hz hc hx hlen hne hch => ?_)
    have hRH := hfr z hz
    obtain ⟨e3, hel⟩ := hfr z hz
    have inner : k < m → ∀ l : List Int, chH z (r + 3) l → (∀ x ∈ l, 0 ≤ x ∧ x < k) → (l.length : Int) ≤ k → popW s I J k l = popW s I J k L → Run X (d + 1) c_Ring_underChain 8 [some (pR r), some (pI s), some (pI (l.length : Int)), some (pI k), none, none, none] [] S z zL 0 0 Q := by
      intro hkm l
      have push : ∀ l : List Int, chH z (r + 3) l → (∀ x ∈ l, 0 ≤ x ∧ x < k) → (l.length : Int) ≤ k → l = popW s I J k L → Run X (d + 1) c_Ring_underChain 31 [some (pR r), some (pI s), some (pI (l.length : Int)), some (pI k), none, none, none] [] S z zL 0 0 Q := by
        intro l hl hlx hll hpe
        refine r_aload_n rfl rfl ?_
        refine r_getR rfl (by assumption) (by assumption) ?_
        refine r_iload_n rfl rfl ?_
        refine r_iload_n rfl rfl ?_
        refine r_iast rfl (by assumption) (by omega) (by omega) ?_
        refine r_iinc rfl rfl ?_
        refine r_iinc rfl rfl ?_
        refine r_goto rfl ?_
        have := ih hkm (by omega) (zput z (r + 3) (l.length : Int) k) (k :: l) (fun c hc => by rw [← hz c hc]; exact zput_row hc) ⟨zput_at, chH_put (Int.le_refl _) hl⟩ (fun x hx => by
          rcases List.mem_cons.mp hx with e | e
          · omega
          · have := hlx x e; omega) (by simp only [List.length_cons]; omega) (fun _ => by simp) (by rw [chW_s hkm] at hch; rw [hpe]; exact hch)
        rw [show ((k :: l).length : Int) = (l.length : Int) + 1 by simp] at this
        exact this
      induction l with
      | nil =>
        intro hl hlx hll hpe
        refine r_iload_n rfl rfl ?_
        refine r_iconst rfl ?_
        refine r_icmp_lt rfl (by unfold inI; omega) (by unfold inI; omega) (fun h10 => ?_) (fun h10 => ?_)
        · skip
          exact push [] hl hlx hll hpe
        · skip
          exact absurd h10 (by simp)
      | cons b l ihl =>
        intro hl hlx hll hpe
        cases l with
        | nil =>
          refine r_iload_n rfl rfl ?_
          refine r_iconst rfl ?_
          refine r_icmp_lt rfl (by unfold inI; omega) (by unfold inI; omega) (fun h10 => ?_) (fun h10 => ?_)
          · skip
            exact push [b] hl hlx hll hpe
          · skip
            exact absurd h10 (by simp)
        | cons a l =>
          obtain ⟨cb, ca, hl2⟩ := id hl
          have hb := hlx b (by simp)
          have ha := hlx a (by simp)
          have hpl : ((b :: a :: l).length : Int) = l.length + 1 + 1 := by simp
          have hpl2 : ((a :: l).length : Int) = l.length + 1 := by simp
          have hll2 : (l.length : Int) + 1 + 1 ≤ k := by rw [← hpl]; exact hll
          have ca' : z (r + 3) ((l.length : Int) + 1 + 1 - 2) = a := by rw [show (l.length : Int) + 1 + 1 - 2 = l.length by omega]; exact ca
          have cb' : z (r + 3) ((l.length : Int) + 1 + 1 - 1) = b := by rw [show (l.length : Int) + 1 + 1 - 1 = l.length + 1 by omega, ← hpl2]; exact cb
          have htb := trn_b hR0 (a := a) (b := b) (c := k) (by omega) (by omega) (by omega)
          have hpop : popW s I J k (b :: a :: l) = if s * trn I J a b k ≤ 0 then popW s I J k (a :: l) else b :: a :: l := rfl
          have hsm : -128 ≤ s * trn I J a b k ∧ s * trn I J a b k ≤ 128 := by rcases hs with rfl | rfl <;> omega
          have hpush := push (b :: a :: l) hl hlx hll
          rw [hpl] at hpush ⊢
          rw [hpop] at hpe
          refine r_iload_n rfl rfl ?_
          refine r_iconst rfl ?_
          refine r_icmp_lt rfl (by unfold inI; omega) (by unfold inI; omega) (fun h10 => ?_) (fun h10 => ?_)
          · skip
            exact absurd h10 (by omega)
          · skip
            refine r_iload_n rfl rfl ?_
            refine r_aload_n rfl rfl ?_
            refine r_aload_n rfl rfl ?_
            refine r_getR rfl (by assumption) (by assumption) ?_
            refine r_iload_n rfl rfl ?_
            refine r_iconst rfl ?_
            refine r_isub rfl ?_
            refine r_iald rfl (by assumption) (by omega) (by omega) ?_
            rw [ca']
            refine r_aload_n rfl rfl ?_
            refine r_getR rfl (by assumption) (by assumption) ?_
            refine r_iload_n rfl rfl ?_
            refine r_iconst rfl ?_
            refine r_isub rfl ?_
            refine r_iald rfl (by assumption) (by omega) (by omega) ?_
            rw [cb']
            refine r_iload_n rfl rfl ?_
            refine r_cV4 rfl hob (Nat.le_of_ble_eq_true rfl) rfl rfl (w_turn hF0 hRH hR0 (by omega) (by omega) (by omega) ?_)
            refine r_imul rfl ?_
            refine r_if_gt rfl (by unfold inI; omega) (fun h28 => ?_) (fun h28 => ?_)
            · skip
              exact hpush (by rw [if_neg (by omega)] at hpe; exact hpe)
            · skip
              refine r_iinc rfl rfl ?_
              refine r_goto rfl ?_
              have := ihl ⟨ca, hl2⟩ (fun x hx => hlx x (List.mem_cons_of_mem _ hx)) (by rw [hpl2]; omega) (by rw [if_pos (by omega)] at hpe; exact hpe)
              rw [hpl2] at this
              rw [show (l.length : Int) + 1 + 1 + -1 = l.length + 1 by omega]
              exact this
    refine r_iload_n rfl rfl ?_
    refine r_aload_n rfl rfl ?_
    refine r_getI rfl (by assumption) ?_
    refine r_icmp_ge rfl (by unfold inI; omega) (by unfold inI; omega) (fun h7 => ?_) (fun h7 => ?_)
    · skip
      refine r_iconst rfl ?_
      refine r_istore_n rfl (Nat.le_of_ble_eq_true rfl) ?_
      refine r_iconst rfl ?_
      refine r_istore rfl (Nat.le_of_ble_eq_true rfl) ?_
      rw [chW_e (by omega)] at hch
      rcases List.eq_nil_or_concat L with e | ⟨l2, a, e⟩
      · subst e
        have h00 := sum z [] hz hc (fun x hx => by cases hx) (by simp; omega) hch
        refine r_iload rfl rfl ?_
        refine r_iload_n rfl rfl ?_
        refine r_icmp_ge rfl (by unfold inI; omega) (by unfold inI; simp) (fun h45 => ?_) (fun h45 => absurd h45 (by simp))
        refine r_iload_n rfl rfl ?_
        refine r_iret rfl ?_
        rw [← hch] at hQ
        exact hQ _ hz
      · have := sum z L hz hc (fun x hx' => by have := hx x hx'; omega) (by omega) hch l2.reverse [a] (by rw [List.reverse_reverse, e, List.concat_eq_append]) (by simp) none none (fun v h => by cases h) (fun v h => by cases h)
        exact this
    · skip
      exact inner (by omega) L hc hx hlen rfl
  refine wp_in (C := c_Ring_underChain) (ls := [some (pR r), some (pI s), none, none, none, none, none]) rfl rfl rfl rfl rfl ?_
  refine r_iconst rfl ?_
  refine r_istore_n rfl (Nat.le_of_ble_eq_true rfl) ?_
  refine r_iconst rfl ?_
  refine r_istore_n rfl (Nat.le_of_ble_eq_true rfl) ?_
  exact key 0 hm0 (Int.le_refl _) zI [] (fun _ _ => rfl) trivial (fun x hx => by cases hx) (Int.le_refl _) (fun h => absurd h (by omega)) (by rw [Int.sub_zero]; rfl)
theorem w_rarea {X : PX} {d : Nat} {S : SS} {zI zL : ZM} {Q : PQ} {r : Nat} {m : Int} {I J : Int → Int} (hF : isRing S r) (hT : RGH zI r m I J) (hR : RGR m I J) (hQ : ∀ z, (∀ c, c ≠ r + 3 → z c = zI c) → Q (some (pI (areaR m I J))) S z zL) : wpM X (d + 3) fRing_area [pR r] S zI zL Q := by
  have hob := hF.1
  refine wp_in (C := c_Ring_area) (ls := [some (pR r)]) rfl rfl rfl rfl rfl ?_
  refine r_aload_n rfl rfl ?_
  refine r_iconst rfl ?_
  refine r_cV2 rfl (by assumption) (Nat.le_of_ble_eq_true rfl) rfl rfl (w_chain hF hT hR (Or.inl rfl) (fun z hz => ?_))
  refine r_aload_n rfl rfl ?_
  refine r_iconst rfl ?_
  refine r_cV2 rfl (by assumption) (Nat.le_of_ble_eq_true rfl) rfl rfl (w_chain hF (by unfold RGH; rw [hz r (by omega), hz (r + 1) (by omega), hz (r + 2) (by omega)]; exact hT) hR (Or.inr rfl) (fun z2 hz2 => ?_))
  refine r_isub rfl ?_
  refine r_iret rfl ?_
  exact hQ _ (fun c hc => (hz2 c hc).trans (hz c hc))
