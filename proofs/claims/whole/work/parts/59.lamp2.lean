/-! lamps: rows of fuses, closed at each fuse -/
def l_jn (E : Nat → Nat → Nat) (a b len i j : Nat) : Nat := min (E i j) (min (E i a + len + E b j) (E i b + len + E a j))
/-- in the midst of a fuse being joined -/
def l_mid (nf : Nat) (A B L : Nat → Nat) (E X : Nat → Nat → Nat) (a b len n i j : Nat) : Prop := (∀ x y, x < 40 → y < 40 → X x y ≤ E x y ∧ (X x y = 10000000 ∨ l_Rch (nf + 1) (p_up A nf a) (p_up B nf b) (p_up L nf len) x y (X x y))) ∧ (∀ x y, x < 40 → y < 40 → (n ≤ x ∨ n ≤ y) → X x y = E x y) ∧ ∀ x y, x < n → y < n → (x < i ∨ (x = i ∧ y < j)) → X x y ≤ l_jn E a b len x y
theorem l_Pot_up {nf a b len : Nat} {A B L f : Nat → Nat} : l_Pot (nf + 1) (p_up A nf a) (p_up B nf b) (p_up L nf len) f ↔ l_Pot nf A B L f ∧ f b ≤ f a + len ∧ f a ≤ f b + len := by
  unfold l_Pot
  constructor
  · intro h
    refine ⟨fun k hk => ?_, ?_⟩
    · have := h k (by omega)
      unfold p_up at this
      rw [if_neg (by omega), if_neg (by omega), if_neg (by omega)] at this
      exact this
    · have := h nf (by omega)
      unfold p_up at this
      rw [if_pos rfl, if_pos rfl, if_pos rfl] at this
      exact this
  · intro h k hk
    unfold p_up
    by_cases e : k = nf
    · rw [if_pos e, if_pos e, if_pos e]; exact h.2
    · rw [if_neg e, if_neg e, if_neg e]; exact h.1 k (by omega)
theorem l_iso {nf nl : Nat} {A B L : Nat → Nat} {E : Nat → Nat → Nat} (h : l_Dist nf A B L E) (hk : ∀ k, k < nf → A k < nl ∧ B k < nl) {i j : Nat} (hi : i < 40) (hj : j < 40) (hn : nl ≤ i) (hij : i ≠ j) : E i j = 10000000 := by
  obtain ⟨d1, d2, d3⟩ := h
  rcases (d2 i j hi hj).2 with e | e
  · exact e
  · have q := e (fun x => if x = i then 0 else 10000000) (fun k hkn => by
      have := hk k hkn
      dsimp only
      rw [if_neg (by omega), if_neg (by omega)]
      omega)
    rw [if_neg (Ne.symm hij), if_pos rfl] at q
    have := (d2 i j hi hj).1
    omega
theorem l_mid_end {nf nl : Nat} {A B L : Nat → Nat} {E X : Nat → Nat → Nat} {a b len : Nat} (hnl : nl ≤ 40) (h : l_Dist nf A B L E) (hk : ∀ k, k < nf → A k < nl ∧ B k < nl) (ha : a < nl) (hb : b < nl) (hm : l_mid nf A B L E X a b len nl nl 0) : l_Dist (nf + 1) (p_up A nf a) (p_up B nf b) (p_up L nf len) X := by
  have h0 := h
  obtain ⟨d1, d2, d3⟩ := h
  obtain ⟨m1, m2, m3⟩ := hm
  have z : ∀ x, x < 40 → X x x = 0 := fun x hx => by
    have := (m1 x x hx hx).1
    rw [d1 x hx] at this
    omega
  have hpot : ∀ i, i < 40 → l_Pot (nf + 1) (p_up A nf a) (p_up B nf b) (p_up L nf len) (l_jn E a b len i) := fun i hi => by
    rw [l_Pot_up]
    refine ⟨fun k hkn => ?_, ?_, ?_⟩
    · have q1 := d3 i hi k hkn
      have q2 := d3 a (by omega) k hkn
      have q3 := d3 b (by omega) k hkn
      unfold l_jn
      omega
    · have q1 := d1 b (by omega)
      unfold l_jn
      omega
    · have q1 := d1 a (by omega)
      unfold l_jn
      omega
  have eq : ∀ x y, x < nl → y < nl → X x y = l_jn E a b len x y := fun x y hx hy => by
    have l1 := m3 x y hx hy (by omega)
    have l2 : l_jn E a b len x y ≤ X x y := by
      have dd := (d2 x y (by omega) (by omega)).1
      rcases (m1 x y (by omega) (by omega)).2 with e | e
      · unfold l_jn; omega
      · have := e _ (hpot x (by omega))
        have zz : l_jn E a b len x x = 0 := by unfold l_jn; rw [d1 x (by omega)]; omega
        omega
    omega
  refine ⟨z, fun x y hx hy => ⟨Nat.le_trans (m1 x y hx hy).1 (d2 x y hx hy).1, (m1 x y hx hy).2⟩, fun x hx => ?_⟩
  by_cases e : x < nl
  · intro k hkn
    have q := hpot x hx k hkn
    have hA : p_up A nf a k < nl ∧ p_up B nf b k < nl := by
      unfold p_up
      by_cases e2 : k = nf
      · rw [if_pos e2, if_pos e2]; exact ⟨ha, hb⟩
      · rw [if_neg e2, if_neg e2]; exact hk k (by omega)
    rw [eq x _ e hA.1, eq x _ e hA.2]
    exact q
  · rw [l_Pot_up]
    have hX : ∀ y, y < 40 → X x y = E x y := fun y hy => m2 x y hx hy (by omega)
    refine ⟨fun k hkn => ?_, ?_, ?_⟩
    · have := hk k hkn
      rw [hX _ (by omega), hX _ (by omega)]
      exact d3 x hx k hkn
    · rw [hX _ (by omega), hX _ (by omega), l_iso h0 hk hx (show b < 40 by omega) (by omega) (by omega), l_iso h0 hk hx (show a < 40 by omega) (by omega) (by omega)]
      omega
    · rw [hX _ (by omega), hX _ (by omega), l_iso h0 hk hx (show b < 40 by omega) (by omega) (by omega), l_iso h0 hk hx (show a < 40 by omega) (by omega) (by omega)]
      omega
theorem l_mid_step {nf nl : Nat} {A B L : Nat → Nat} {E X : Nat → Nat → Nat} {a b len i j : Nat} (hnl : nl ≤ 40) (h : l_Dist nf A B L E) (ha : a < nl) (hb : b < nl) (hi : i < nl) (hj : j < nl) (hm : l_mid nf A B L E X a b len nl i j) : l_mid nf A B L E (fun x y => if x = i ∧ y = j then min (X i j) (min (X i a + len + X b j) (X i b + len + X a j)) else X x y) a b len nl i (j + 1) := by
  obtain ⟨d1, d2, d3⟩ := h
  obtain ⟨m1, m2, m3⟩ := hm
  have tr : ∀ x y u v, (u = a ∧ v = b) ∨ (u = b ∧ v = a) → x < 40 → y < 40 → X x u + len + X v y < 10000000 → l_Rch (nf + 1) (p_up A nf a) (p_up B nf b) (p_up L nf len) x y (X x u + len + X v y) := by
    intro x y u v huv hx hy hlt f hf
    have hu : u < 40 := by omega
    have hv : v < 40 := by omega
    have hf2 := (l_Pot_up.mp hf).2
    rcases (m1 x u hx hu).2 with e1 | e1
    · omega
    · rcases (m1 v y hv hy).2 with e2 | e2
      · omega
      · have q1 := e1 f hf
        have q2 := e2 f hf
        rcases huv with ⟨rfl, rfl⟩ | ⟨rfl, rfl⟩ <;> omega
  refine ⟨fun x y hx hy => ?_, fun x y hx hy hn => ?_, fun x y hx hy hs => ?_⟩
  · dsimp only
    by_cases e : x = i ∧ y = j
    · obtain ⟨rfl, rfl⟩ := e
      rw [if_pos ⟨rfl, rfl⟩]
      have q1 := m1 x y hx hy
      have q2 := (d2 x y hx hy).1
      refine ⟨by omega, ?_⟩
      by_cases c1 : X x a + len + X b y < X x y
      · by_cases c2 : X x b + len + X a y < X x a + len + X b y
        · have e : min (X x y) (min (X x a + len + X b y) (X x b + len + X a y)) = X x b + len + X a y := by omega
          rw [e]; exact Or.inr (tr x y b a (Or.inr ⟨rfl, rfl⟩) hx hy (by omega))
        · have e : min (X x y) (min (X x a + len + X b y) (X x b + len + X a y)) = X x a + len + X b y := by omega
          rw [e]; exact Or.inr (tr x y a b (Or.inl ⟨rfl, rfl⟩) hx hy (by omega))
      · by_cases c2 : X x b + len + X a y < X x y
        · have e : min (X x y) (min (X x a + len + X b y) (X x b + len + X a y)) = X x b + len + X a y := by omega
          rw [e]; exact Or.inr (tr x y b a (Or.inr ⟨rfl, rfl⟩) hx hy (by omega))
        · have e : min (X x y) (min (X x a + len + X b y) (X x b + len + X a y)) = X x y := by omega
          rw [e]; exact q1.2
    · rw [if_neg e]; exact m1 x y hx hy
  · dsimp only
    rw [if_neg (by omega)]; exact m2 x y hx hy hn
  · dsimp only
    by_cases e : x = i ∧ y = j
    · obtain ⟨rfl, rfl⟩ := e
      rw [if_pos ⟨rfl, rfl⟩]
      have q1 := (m1 x a (by omega) (by omega)).1
      have q2 := (m1 b y (by omega) (by omega)).1
      have q3 := (m1 x b (by omega) (by omega)).1
      have q4 := (m1 a y (by omega) (by omega)).1
      have q5 := (m1 x y (by omega) (by omega)).1
      unfold l_jn
      omega
    · rw [if_neg e]; exact m3 x y hx hy (by omega)
theorem nI_min {a b : Nat} (ha : a < 2 ^ 31) (hb : b < 2 ^ 31) : (if nI a < nI b then nI a else nI b) = nI (min a b) := by
  by_cases e : a < b
  · rw [if_pos (nI_lt e hb), Nat.min_eq_left (by omega)]
  · rw [if_neg (nI_nlt (by omega) ha), Nat.min_eq_right (by omega)]
def l_rows (J : j_M) (X : Nat → Nat → Nat) : Prop := ∀ x y, x < 40 → y < 40 → J (154 + x) y = nI (X x y)
def l_oth (J0 J : j_M) : Prop := ∀ c k, ¬ (154 ≤ c ∧ c < 194 ∧ k < 40) → J c k = J0 c k
theorem l_join15 {F nf nl i a b len : Nat} {A B L : Nat → Nat} {E : Nat → Nat → Nat} {J0 : j_M} {Po : Int32 → j_M → Prop} {kb3 : Int32 → Int32 → Int32 → Int32 → j_M → Option (Int32 × j_M)} (hF : 20000000 < F) (hnl : nl ≤ 40) (h5 : J0 150 0 = nI nl) (h : l_Dist nf A B L E) (ha : a < nl) (hb : b < nl) (hlen : len ≤ 999) (hi : i < nl) (hk : ∀ J X, l_oth J0 J → l_rows J X → l_mid nf A B L E X a b len nl (i + 1) 0 → j_wpo (kb3 (nI a) (nI b) (nI len) (nI (i + 1)) J) Po) (J : j_M) (X : Nat → Nat → Nat) (ho : l_oth J0 J) (hr : l_rows J X) (hm : l_mid nf A B L E X a b len nl i 0) : j_wpo (f_La_join_15 F kb3 (nI a) (nI b) (nI len) (nI i) 0 J) Po := by
  unfold f_La_join_15
  refine j_it_wp (Inv := fun k q => ∃ j J X, j + k = nl ∧ q = (nI a, nI b, nI len, nI i, nI j, J) ∧ l_oth J0 J ∧ l_rows J X ∧ l_mid nf A B L E X a b len nl i j) ?_ F nl _ (by omega) ⟨0, J, X, by omega, rfl, ho, hr, hm⟩
  intro k q again hq hag
  obtain ⟨j, J, X, hj, rfl, ho, hr, hm⟩ := hq
  dsimp only
  unfold f_La_join_15b
  rw [ho 150 0 (by omega), h5]
  by_cases e : j = nl
  · refine wpo_pos (nI_le (by omega) (by omega)) (wpo_let ?_)
    rw [nI_1]
    refine hk J X ho hr ⟨hm.1, hm.2.1, fun x y hx hy hs => hm.2.2 x y hx hy (by omega)⟩
  · refine wpo_neg (nI_ge (by omega) (by omega)) ?_
    have oa : j_ok (nI a) 40 = true := j_ok_nI (by omega) (by decide)
    have ob : j_ok (nI b) 40 = true := j_ok_nI (by omega) (by decide)
    have oi : j_ok (nI i) 40 = true := j_ok_nI (by omega) (by decide)
    have oj : j_ok (nI j) 40 = true := j_ok_nI (by omega) (by decide)
    have bd : ∀ x y, x < 40 → y < 40 → X x y ≤ 10000000 := fun x y hx hy => Nat.le_trans (hm.1 x y hx hy).1 (h.2.1 x y hx hy).1
    have b1 := bd i a (by omega) (by omega)
    have b2 := bd b j (by omega) (by omega)
    have b3 := bd i b (by omega) (by omega)
    have b4 := bd a j (by omega) (by omega)
    have b5 := bd i j (by omega) (by omega)
    simp only [oa, ob, oi, oj, if_true, j_letE, j_ix_nI (show a < 2 ^ 31 by omega), j_ix_nI (show b < 2 ^ 31 by omega), j_ix_nI (show i < 2 ^ 31 by omega), j_ix_nI (show j < 2 ^ 31 by omega), hr i a (by omega) (by omega), hr b j (by omega) (by omega), hr i b (by omega) (by omega), hr a j (by omega) (by omega), hr i j (by omega) (by omega), nI_add, nI_1]
    rw [nI_min (a := X i b + len + X a j) (b := X i a + len + X b j) (by omega) (by omega), nI_min (by omega) (by omega)]
    refine hag _ (k - 1) (by omega) ⟨j + 1, _, _, by omega, rfl, fun c y hc => ?_, fun x y hx hy => ?_, l_mid_step hnl h ha hb hi (by omega) hm⟩
    · rw [j_wr_at, if_neg (by omega)]; exact ho c y hc
    · rw [j_wr_at]
      by_cases e2 : x = i ∧ y = j
      · rw [if_pos (by omega), if_pos e2]
        congr 1
        omega
      · rw [if_neg (by omega), if_neg e2]; exact hr x y hx hy
theorem l_join {F nf nl a b len : Nat} {A B L : Nat → Nat} {E : Nat → Nat → Nat} {J : j_M} (hF : 20000000 < F) (hnl : nl ≤ 40) (h5 : J 150 0 = nI nl) (h6 : J 150 1 = nI nf) (h : l_Dist nf A B L E) (hE : l_rows J E) (hk : ∀ k, k < nf → A k < nl ∧ B k < nl) (ha : a < nl) (hb : b < nl) (hlen : len ≤ 999) : j_wpo (f_La_join F (nI a) (nI b) (nI len) J) (fun v J' => v = nI (nf + 1) ∧ ∃ X, (∀ c k, ¬ (154 ≤ c ∧ c < 194 ∧ k < 40) → J' c k = j_wr J 150 1 (nI (nf + 1)) c k) ∧ l_rows J' X ∧ l_Dist (nf + 1) (p_up A nf a) (p_up B nf b) (p_up L nf len) X) := by
  unfold f_La_join f_La_join_3
  refine j_it_wp (Inv := fun k q => ∃ i J' X, i + k = nl ∧ q = (nI a, nI b, nI len, nI i, J') ∧ l_oth J J' ∧ l_rows J' X ∧ l_mid nf A B L E X a b len nl i 0) ?_ F nl _ (by omega) ⟨0, J, E, by omega, rfl, fun _ _ _ => rfl, hE, fun x y hx hy => ⟨Nat.le_refl _, ?_⟩, fun _ _ _ _ _ => rfl, fun x y hx hy hs => absurd hs (by omega)⟩
  · intro k q again hq hag
    obtain ⟨i, J', X, hi, rfl, ho, hr, hm⟩ := hq
    dsimp only
    unfold f_La_join_3b
    rw [ho 150 0 (by omega), h5]
    by_cases e : i = nl
    · subst e
      refine wpo_pos (nI_le (by omega) (by omega)) (wpo_let ?_)
      rw [ho 150 1 (by omega), h6, nI_1]
      refine wpo_some ⟨j_wr_same _ _ _ _, X, fun c k hc => ?_, fun x y hx hy => ?_, l_mid_end hnl h hk ha hb hm⟩
      · rw [j_wr_at, j_wr_at, ho c k hc]
      · rw [j_wr_cell _ _ _ (by omega)]; exact hr x y hx hy
    · refine wpo_neg (nI_ge (by omega) (by omega)) ?_
      exact l_join15 hF hnl h5 h ha hb hlen (by omega) (fun J2 X2 y1 y2 y3 => hag _ (k - 1) (by omega) ⟨i + 1, J2, X2, by omega, rfl, y1, y2, y3⟩) J' X ho hr hm
  · rcases (h.2.1 x y hx hy).2 with e | e
    · exact Or.inl e
    · exact Or.inr (fun f hf => e f (l_Pot_up.mp hf).1)
theorem op_fuse (F : Nat) (hF : 20000000 < F) (x1 x2 x3 : Int32) : OP F (f_G_fuse F x1 x2 x3) (f_M_fuse F x1 x2 x3) := by
  intro s J K hs h
  have h0 := h
  obtain ⟨hr, h1, h2⟩ := h
  obtain ⟨a0, b0, c0, a1, b1, c1, a2, b2, c2, a3, b3, c3, d3, a4, b4, c4, a5, b5, c5, a6, b6, c6, a7, b7, c7, a8, b8, c8, a9, b9, c9, a10, b10, c10, a11, b11, c11, a12, a15, c15, a14, b14, c14, e1, e2, e3, e4, e5, e6, r1, r2, r3, r4, r5, r6, r7, r8, r9, r10, r11, r12, r13, r14, r15, r16, r17, hwk, hso, hrn, hnu, hpt, hrg, hbx, hor, hsa, hsb, hsc, hsn, hwz, hth, hla, hli, hlt, hpr, hby, htp, hrm, hhd, hlr, hK⟩ := hr
  simp only [f_G_fuse, f_M_fuse, e_within, e_among, e_La_has, e_isLa F x1 K b5 (by omega), e_isLa F x2 K b5 (by omega), j_bdS, j_letE, a5]
  refine wp2_ite Iff.rfl (fun q1 => wp2_mk rfl rfl (op_idle hs h0 rfl)) (fun q1 => ?_)
  refine wp2_ite Iff.rfl (fun q1 => wp2_mk rfl rfl (op_idle hs h0 rfl)) (fun q2 => ?_)
  refine wp2_ite Iff.rfl (fun q1 => wp2_mk rfl rfl (op_idle hs h0 rfl)) (fun q3 => ?_)
  refine wp2_ite Iff.rfl (fun q1 => wp2_mk rfl rfl (op_idle hs h0 rfl)) (fun q4 => ?_)
  obtain ⟨a, ha, rfl⟩ := nI_in1 (by omega) (b10n q1)
  obtain ⟨b, hb, rfl⟩ := nI_in1 (by omega) (b10n q2)
  have q4' := b10n q4
  obtain ⟨len, hlen, rfl⟩ := nI_in2 999 rfl (by decide) ⟨Int32.le_trans (by decide) q4'.1, q4'.2⟩
  have hl1 : 1 ≤ len := (nI_leI (a := 1) (by decide) (by omega)).mp q4'.1
  by_cases hn : s 6 < 80
  · have o2 : j_ok (nI (s 6)) 80 = true := j_ok_nI hn (by decide)
    refine wp2_Lp (by rw [a6]; exact nI_lt (b := 80) hn (by decide)) (wp2_Rn (by rw [b6]; exact nI_ne (b := 80) (by omega) (by omega) (by decide)) ?_)
    have hla0 := hla
    obtain ⟨A, B, L, E, y1, y2, y3⟩ := hla
    have hE : l_rows J E := fun x y hx hy => by rw [vw_at (lo := 154) (hi := 40) (I := J) hx]; exact y2 x y hx hy
    refine wp2_L (wpo_mono (l_join (len := len) hF c5 a5 a6 y3 hE (fun k hk => ⟨(y1 k hk).1, (y1 k hk).2.1⟩) ha hb hlen) ?_)
    rintro v J' ⟨rfl, X, z1, z2, z3⟩
    simp (disch := decide) only [b6, o2, if_true, j_ix_nI (show s 6 < 2 ^ 31 by omega), j_wr_cell, nI_1]
    have eJ : J' = jvw (j_wr J 150 1 (nI (s 6 + 1))) 154 40 (vw 154 40 J') := by
      funext c k
      by_cases e : 154 ≤ c ∧ c < 154 + 40
      · obtain ⟨i, hi, rfl⟩ : ∃ i, i < 40 ∧ c = 154 + i := ⟨c - 154, by omega, by omega⟩
        rw [jvw_in hi, ← vw_at hi]
      · rw [jvw_out (by omega)]; exact z1 c k (by omega)
    rw [eJ]
    have hv := v0_vw 154 40 J'
    refine wp2_mk rfl rfl (op_fin (s' := p_up s 6 (s 6 + 1)) hs rfl ?_ ?_ ?_ ⟨?_, ?_, h2⟩)
    · rw [j_wr_same]
    · exact frJ_vw (by decide) (frJ_wr (by decide) (frJ_rf _))
    · exact frK_wr (by decide) (frK_wr (by decide) (frK_wr (by decide) (frK_wr (by decide) (frK_rf _))))
    · exact ⟨a0, b0, c0, a1, b1, c1, a2, b2, c2, a3, b3, c3, d3, a4, b4, c4, a5, b5, c5, rfl, rfl, (show s 6 + 1 ≤ 80 by omega), a7, b7, c7, a8, b8, c8, a9, b9, c9, a10, b10, c10, a11, b11, c11, a12, a15, c15, a14, b14, c14, e1, e2, e3, e4, e5, e6, r1, r2, r3, r4, r5, r6, r7, r8, r9, r10, r11, r12, r13, r14, r15, r16, r17, (by (try simp (disch := decide) only [vw_wr, vw_rw, vw_jvo]); exact hwk), hso, hrn, (by (try simp (disch := decide) only [vw_wr, vw_rw, vw_jvo]); exact hnu), (by (try simp (disch := decide) only [vw_wr, vw_rw, vw_jvo]); exact hpt), (by (try simp (disch := decide) only [vw_wr, vw_rw, vw_jvo]); exact hrg), (by (try simp (disch := decide) only [vw_wr, vw_rw, vw_jvo]); exact hbx), hor, (by (try simp (disch := decide) only [vw_wr, vw_rw, vw_jvo]); exact hsa), (by (try simp (disch := decide) only [vw_wr, vw_rw, vw_jvo]); exact hsb), (by (try simp (disch := decide) only [vw_wr, vw_rw, vw_jvo]); exact hsc), (by (try simp (disch := decide) only [vw_wr, vw_rw, vw_jvo]); exact hsn), hwz, hth, (by
        rw [vw_jvw hv]
        refine ⟨p_up A (s 6) a, p_up B (s 6) b, p_up L (s 6) len, X, fun k hk => ?_, fun x y hx hy => ?_, z3⟩
        · have hk2 : k < s 6 + 1 := hk
          show _ ∧ _ ∧ _ ∧ _ ∧ j_wr K 235 (s 6) (nI a) 235 k = _ ∧ j_wr K 236 (s 6) (nI b) 236 k = _ ∧ j_wr K 237 (s 6) (nI len) 237 k = _
          unfold p_up
          by_cases e : k = s 6
          · subst e
            simp only [if_true, j_wr_same]
            exact ⟨ha, hb, hl1, hlen, trivial, trivial, trivial⟩
          · simp only [if_neg e, j_wr_idx _ _ _ e]
            exact y1 k (by omega)
        · rw [← vw_at hx]; exact z2 x y hx hy), hli, hlt, hpr, hby, htp, hrm, (by (try simp (disch := decide) only [vw_wr, vw_rw, vw_jvo]); exact hhd), hlr, hK⟩
    · simp (disch := decide) only [vw_jvo, vw_wr]; exact h1
  · have e80 : s 6 = 80 := by omega
    refine wp2_Ln (by rw [a6, e80]; decide) (wp2_Rp (by rw [b6, e80]; rfl) (wp2_mk rfl rfl (op_idle hs h0 rfl)))
