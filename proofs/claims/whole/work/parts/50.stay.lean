/-! stays: what an end and a beginning do to the pictures -/
theorem upd_at (f : Nat → Int32) (k : Nat) (v : Int32) : upd f k v k = v := by unfold upd; rw [if_pos rfl]
theorem upd_ne (f : Nat → Int32) {k j : Nat} (v : Int32) (h : j ≠ k) : upd f k v j = f j := by unfold upd; rw [if_neg h]
theorem vup_at (V : Nat → Nat → Int32) (i k : Nat) (v : Int32) : vup V i k v i k = v := by unfold vup; rw [if_pos ⟨rfl, rfl⟩]
theorem vup_ne (V : Nat → Nat → Int32) {i j : Nat} (k f : Nat) (v : Int32) (h : j ≠ i) : vup V i k v j f = V j f := by unfold vup; rw [if_neg (fun z => h z.2)]
theorem cov_end {fr un : Nat → Int32} {g sh : Nat} (h : un g = 480) (hsh : sh ≤ 480) (t m : Nat) (hm : m < sh) : p_cov fr (upd un g (nI sh)) t m ↔ p_cov fr un t m := by
  unfold p_cov
  by_cases e : t = g
  · subst e
    rw [upd_at, h]
    constructor
    · intro z; exact ⟨z.1, nI_lt (b := 480) (by omega) (by decide)⟩
    · intro z; exact ⟨z.1, nI_lt hm (by omega)⟩
  · rw [upd_ne _ _ e]
theorem sa_end {np ns sh g : Nat} {P : Nat → Nat → Int32} {who whe fr un wa : Nat → Int32} (h : R_sa np ns sh P who whe fr un wa) (hg : un g = 480) (hsh : sh ≤ 480) : R_sa np ns sh P who whe fr (upd un g (nI sh)) wa := by
  intro p hp m hm
  rcases h p hp m hm with ⟨y1, y2⟩ | ⟨q, t, y1, y2, y3, y4, y5, y6, y7⟩
  · exact Or.inl ⟨y1, fun t ht hw z => y2 t ht hw ((cov_end hg hsh t m hm).mp z)⟩
  · exact Or.inr ⟨q, t, y1, y2, y3, y4, (cov_end hg hsh t m hm).mpr y5, y6, fun t' ht hw z => y7 t' ht hw ((cov_end hg hsh t' m hm).mp z)⟩
theorem sb_end {np ns sh g i : Nat} {P P' : Nat → Nat → Int32} {who fr un : Nat → Int32} (h : R_sb np ns sh P who fr un) (hi : P i 11 = nI g) (hP : ∀ p, p ≠ i → P' p 3 = P p 3 ∧ P' p 11 = P p 11) (hns : ns < 2 ^ 31) (hgn : g < ns) : R_sb np ns sh P' who fr (upd un g (nI sh)) := by
  intro t ht
  obtain ⟨p, f, y1, y2, y3, y4, y5⟩ := h t ht
  refine ⟨p, f, y1, y2, y3, y4, ?_⟩
  by_cases e : t = g
  · subst e
    exact Or.inl ⟨sh, Nat.le_refl _, upd_at _ _ _⟩
  · rw [upd_ne _ _ e]
    rcases y5 with y5 | ⟨z1, z2, z3⟩
    · exact Or.inl y5
    · have hpi : p ≠ i := fun z => by
        subst z
        rw [hi] at z3
        exact e ((nI_eq (by omega) (by omega)).mp z3).symm
      exact Or.inr ⟨z1, by rw [(hP p hpi).1]; exact z2, by rw [(hP p hpi).2]; exact z3⟩
theorem sc_end {np ns g i : Nat} {v : Int32} {P P' : Nat → Nat → Int32} {who whe un : Nat → Int32} (h : R_sc np ns P who whe un) (hi : who g = nI i) (hin : i < np) (hnp : np < 2 ^ 31) (hP : ∀ p, p ≠ i → P' p 3 = P p 3 ∧ P' p 4 = P p 4 ∧ P' p 11 = P p 11) (h3 : P' i 3 ≠ 0) : R_sc np ns P' who whe (upd un g v) := by
  intro p hp hz
  have hpi : p ≠ i := fun z => h3 (by rw [← z]; exact hz)
  obtain ⟨q1, q2, q3⟩ := hP p hpi
  rw [q1] at hz
  obtain ⟨t, y1, y2, y3, y4, y5⟩ := h p hp hz
  refine ⟨t, y1, by rw [q3]; exact y2, y3, by rw [q2]; exact y4, ?_⟩
  have : t ≠ g := fun z => by
    subst z
    rw [hi] at y3
    exact hpi ((nI_eq (by omega) (by omega)).mp y3).symm
  rw [upd_ne _ _ this]; exact y5
theorem sa_new {np np' ns sh i : Nat} {x : Int32} {P P' : Nat → Nat → Int32} {who whe fr un wa : Nat → Int32} (h : R_sa np ns sh P who whe fr un wa) (hb : R_sb np ns sh P who fr un) (hP : ∀ p, p < np → P' p 10 = P p 10) (hn : ∀ p, np ≤ p → p < np' → ∀ m, m < sh → p_pic P' wa p m = 0) (hnp : np' < 2 ^ 31) (hsh : sh < 2 ^ 31) : R_sa np' (ns + 1) sh P' (upd who ns (nI i)) (upd whe ns x) (upd fr ns (nI sh)) (upd un ns 480) wa := by
  have cv : ∀ t m, t < ns + 1 → m < sh → p_cov (upd fr ns (nI sh)) (upd un ns 480) t m → t < ns ∧ p_cov fr un t m := by
    intro t m ht hm hc
    by_cases e : t = ns
    · subst e
      unfold p_cov at hc
      rw [upd_at] at hc
      exact absurd ((nI_leI (by omega) (by omega)).mp hc.1) (by omega)
    · unfold p_cov at hc ⊢
      rw [upd_ne _ _ e, upd_ne _ _ e] at hc
      exact ⟨by omega, hc⟩
  intro p hp m hm
  by_cases hpn : p < np
  · have ep : p_pic P' wa p m = p_pic P wa p m := by unfold p_pic; rw [hP p hpn]
    rw [ep]
    rcases h p hpn m hm with ⟨y1, y2⟩ | ⟨q, t, y1, y2, y3, y4, y5, y6, y7⟩
    · refine Or.inl ⟨y1, fun t ht hw z => ?_⟩
      obtain ⟨z1, z2⟩ := cv t m ht hm z
      rw [upd_ne _ _ (by omega)] at hw
      exact y2 t z1 hw z2
    · refine Or.inr ⟨q, t, y1, y2, by omega, by rw [upd_ne _ _ (by omega)]; exact y4, ?_, by rw [upd_ne _ _ (by omega)]; exact y6, fun t' ht hw z => ?_⟩
      · unfold p_cov at y5 ⊢
        rw [upd_ne _ _ (by omega), upd_ne _ _ (by omega)]; exact y5
      · obtain ⟨z1, z2⟩ := cv t' m ht hm z
        rw [upd_ne _ _ (by omega)] at hw
        exact y7 t' z1 hw z2
  · refine Or.inl ⟨hn p (by omega) hp m hm, fun t ht hw z => ?_⟩
    obtain ⟨z1, z2⟩ := cv t m ht hm z
    rw [upd_ne _ _ (by omega)] at hw
    obtain ⟨p2, f, w1, w2, w3⟩ := hb t z1
    rw [hw] at w2
    exact absurd ((nI_eq (by omega) (by omega)).mp w2) (by omega)
theorem sb_new {np np' ns sh i : Nat} {P P' : Nat → Nat → Int32} {who fr un : Nat → Int32} (h : R_sb np ns sh P who fr un) (hnn : np ≤ np') (hi : i < np') (hP : ∀ p, p < np → P p 3 = 0 → p ≠ i) (hP2 : ∀ p, p < np → p ≠ i → P' p 3 = P p 3 ∧ P' p 11 = P p 11) (h3 : P' i 3 = 0) (h11 : P' i 11 = nI ns) : R_sb np' (ns + 1) sh P' (upd who ns (nI i)) (upd fr ns (nI sh)) (upd un ns 480) := by
  intro t ht
  by_cases e : t = ns
  · subst e
    exact ⟨i, sh, hi, upd_at _ _ _, Nat.le_refl _, upd_at _ _ _, Or.inr ⟨upd_at _ _ _, h3, h11⟩⟩
  · obtain ⟨p, f, y1, y2, y3, y4, y5⟩ := h t (by omega)
    refine ⟨p, f, by omega, by rw [upd_ne _ _ e]; exact y2, y3, by rw [upd_ne _ _ e]; exact y4, ?_⟩
    rw [upd_ne _ _ e]
    rcases y5 with y5 | ⟨z1, z2, z3⟩
    · exact Or.inl y5
    · have q := hP2 p y1 (hP p y1 z2)
      exact Or.inr ⟨z1, by rw [q.1]; exact z2, by rw [q.2]; exact z3⟩
theorem sc_new {np np' ns i : Nat} {x : Int32} {P P' : Nat → Nat → Int32} {who whe un : Nat → Int32} (h : R_sc np ns P who whe un) (hi : ∀ p, p < np' → p ≠ i → p < np) (hP2 : ∀ p, p < np → p ≠ i → P' p 3 = P p 3 ∧ P' p 4 = P p 4 ∧ P' p 11 = P p 11) (h4 : P' i 4 = x) (h11 : P' i 11 = nI ns) : R_sc np' (ns + 1) P' (upd who ns (nI i)) (upd whe ns x) (upd un ns 480) := by
  intro p hp hz
  by_cases e : p = i
  · subst e
    exact ⟨ns, by omega, h11, upd_at _ _ _, by rw [upd_at, h4], upd_at _ _ _⟩
  · obtain ⟨q1, q2, q3⟩ := hP2 p (hi p hp e) e
    rw [q1] at hz
    obtain ⟨t, y1, y2, y3, y4, y5⟩ := h p (hi p hp e) hz
    exact ⟨t, by omega, by rw [q3]; exact y2, by rw [upd_ne _ _ (by omega)]; exact y3, by rw [upd_ne _ _ (by omega), q2]; exact y4, by rw [upd_ne _ _ (by omega)]; exact y5⟩
theorem sn_up {np i : Nat} {f g : Nat → Nat} (h : ∀ p, p < np → p ≠ i → g p = f p) (hi : i < np) : p_sum g np + f i = p_sum f np + g i := by
  have := p_sum_up (f := f) (v := g i) hi
  rw [← this]
  congr 1
  refine p_sum_congr (fun p hp => ?_)
  unfold p_up
  by_cases e : p = i
  · rw [if_pos e, e]
  · rw [if_neg e]; exact h p hp e
/-! orders: moving, dropping -/
theorem e_move {F i j : Nat} {J : j_M} {A B C : Nat → Int32} (hi : i < 60) (hj : j < 60) : f_Ki_move F (nI i) (nI j) (j_rw (j_rw (j_rw J 199 A) 200 B) 201 C) = some (0, j_rw (j_rw (j_rw J 199 (upd A j (A i))) 200 (upd B j (B i))) 201 (upd C j (C i &&& 1))) := by
  have oi : j_ok (nI i) 60 = true := j_ok_nI hi (by decide)
  have oj : j_ok (nI j) 60 = true := j_ok_nI hj (by decide)
  unfold f_Ki_move
  simp only [oi, oj, if_true, j_letE, j_ix_nI (show i < 2 ^ 31 by omega), j_ix_nI (show j < 2 ^ 31 by omega)]
  simp (disch := decide) only [wr_ne, rw_wr, rw_ne, rw_at]
theorem e_shift {F i j : Nat} {K : j_M} {A B C : Nat → Int32} (hi : i < 60) (hj : j < 60) : f_M_shift F (nI i) (nI j) (j_rw (j_rw (j_rw K 242 A) 243 B) 244 C) = some (0, j_rw (j_rw (j_rw K 242 (upd A j (A i))) 243 (upd B j (B i))) 244 (upd C j (C i &&& 1))) := by
  have oi : j_ok (nI i) 60 = true := j_ok_nI hi (by decide)
  have oj : j_ok (nI j) 60 = true := j_ok_nI hj (by decide)
  unfold f_M_shift
  simp only [oi, oj, if_true, j_letE, j_ix_nI (show i < 2 ^ 31 by omega), j_ix_nI (show j < 2 ^ 31 by omega)]
  simp (disch := decide) only [wr_ne, rw_wr, rw_ne, rw_at]
theorem l_drop {F np no : Nat} {x : Int32} {J K : j_M} (hF : 20000000 < F) (a8 : J 198 4 = nI no) (b8 : K 215 46 = nI no) (c8 : no ≤ 60) (r7 : J 199 = K 242) (r8 : J 200 = K 243) (r9 : J 201 = K 244) (hor : R_or np no (J 199)) : j_wp2 (f_Ki_dropOrdersOf F x J) (f_M_getsUp_21 F x 0 0 K) (fun _ J' _ K' => ∃ kept A B C, kept ≤ no ∧ R_or np kept A ∧ J' = j_wr (j_rw (j_rw (j_rw J 199 A) 200 B) 201 C) 198 4 (nI kept) ∧ K' = j_wr (j_rw (j_rw (j_rw K 242 A) 243 B) 244 C) 215 46 (nI kept)) := by
  unfold f_Ki_dropOrdersOf f_Ki_dropOrdersOf_4 f_M_getsUp_21
  refine j_it2 (Inv := fun k q r => ∃ i kept A B C, i + k = no ∧ kept ≤ i ∧ R_or np kept A ∧ (∀ t, i ≤ t → t < no → ∃ p, p < np ∧ A t = nI p) ∧ q = (x, nI kept, nI i, j_rw (j_rw (j_rw J 199 A) 200 B) 201 C) ∧ r = (x, nI kept, nI i, j_rw (j_rw (j_rw K 242 A) 243 B) 244 C)) ?_ F no _ _ (by omega) ⟨0, 0, J 199, J 200, J 201, by omega, by omega, fun t ht => absurd ht (by omega), fun t _ ht => hor t ht, ?_, ?_⟩
  · intro k q r g1 g2 hq hag
    obtain ⟨i, kept, A, B, C, hi, hki, hA, hA2, rfl, rfl⟩ := hq
    dsimp only
    unfold f_Ki_dropOrdersOf_4b f_M_getsUp_21b
    have e1 : (j_rw (j_rw (j_rw J 199 A) 200 B) 201 C) 198 4 = nI no := a8
    have e2 : (j_rw (j_rw (j_rw K 242 A) 243 B) 244 C) 215 46 = nI no := b8
    rw [e1, e2]
    by_cases e : i = no
    · have c : nI no ≤ nI i := nI_le (by omega) (by omega)
      exact wp2_Lp c (wp2_Rp c (wp2_mk rfl rfl ⟨kept, A, B, C, by omega, hA, rfl, rfl⟩))
    · have c : ¬ nI no ≤ nI i := nI_ge (by omega) (by omega)
      have o : j_ok (nI i) 60 = true := j_ok_nI (by omega) (by decide)
      refine wp2_Ln c (wp2_Rn c (wp2_Lp o (wp2_Rp o ?_)))
      unfold f_Ki_dropOrdersOf_31 f_M_getsUp_51
      rw [e_move (by omega) (by omega), e_shift (by omega) (by omega), j_ix_nI (by omega)]
      simp only [j_letE, j_bdS, nI_1]
      refine wp2_ite Iff.rfl (fun z => ?_) (fun z => ?_)
      · exact hag _ _ (k - 1) (by omega) ⟨i + 1, kept, A, B, C, by omega, by omega, hA, fun t h1 h2 => hA2 t (by omega) h2, rfl, rfl⟩
      · refine hag _ _ (k - 1) (by omega) ⟨i + 1, kept + 1, _, _, _, by omega, by omega, fun t ht => ?_, fun t h1 h2 => ?_, rfl, rfl⟩
        · by_cases et : t = kept
          · subst et; rw [upd_at]; exact hA2 i (by omega) (by omega)
          · rw [upd_ne _ _ et]; exact hA t (by omega)
        · rw [upd_ne _ _ (by omega)]; exact hA2 t (by omega) h2
  · rw [rw_self, rw_self, rw_self]; rfl
  · rw [r7, r8, r9, rw_self, rw_self, rw_self]; rfl
