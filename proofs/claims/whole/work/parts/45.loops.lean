/-! loops that change nothing -/
theorem b2 {c : Prop} [Decidable c] {α : Type} {A B : α} : (if c then A else B) = (if ¬ c then B else A) := by
  by_cases h : c <;> simp [h]
theorem l_headsIn {F np : Nat} {J K : j_M} (hF : 20000000 < F) (h1 : J 41 0 = nI np) (h2 : K 215 12 = nI np) (hnp : np ≤ 100) (hp : ∀ i, i < np → vw 43 100 J i 1 = K 223 i ∧ vw 43 100 J i 3 = K 225 i) : j_wp2 (f_Gu_headsIn F J) (f_M_headsIn F K) (fun v J' w K' => v = w ∧ J' = J ∧ K' = K) := by
  unfold f_Gu_headsIn f_Gu_headsIn_4 f_M_headsIn f_M_headsIn_4
  refine j_it2 (Inv := fun k q r => ∃ i acc, i + k = np ∧ q = (acc, nI i, J) ∧ r = (acc, nI i, K)) ?_ F np _ _ (by omega) ⟨0, 0, by omega, rfl, rfl⟩
  intro k q r g1 g2 hq hag
  obtain ⟨i, acc, hi, rfl, rfl⟩ := hq
  dsimp only
  unfold f_Gu_headsIn_4b f_M_headsIn_4b
  rw [h1, h2]
  by_cases e : i = np
  · have c : nI np ≤ nI i := nI_le (by omega) (by omega)
    exact wp2_Lp c (wp2_Rp c (wp2_mk rfl rfl ⟨rfl, rfl, rfl⟩))
  · have c : ¬ nI np ≤ nI i := nI_ge (by omega) (by omega)
    have o : j_ok (nI i) 100 = true := j_ok_nI (by omega) (by decide)
    obtain ⟨p1, p3⟩ := hp i (by omega)
    refine wp2_Ln c (wp2_Rn c (wp2_Lp o (wp2_Rp o ?_)))
    unfold f_Pa_isIn f_Gu_headsIn_36 f_M_headsIn_33
    simp only [j_ix_nI (show i < 2 ^ 31 by omega), vw_at (show i < 100 by omega), p1, p3]
    by_cases z : K 225 i = 2
    · rw [if_pos z, if_pos z]
      simp only [j_letE, j_bdS, nI_1]
      refine wp2_Lp trivial ?_
      exact hag _ _ (k - 1) (by omega) ⟨i + 1, acc, by omega, rfl, by rw [Int32.add_zero]⟩
    · rw [if_neg z, if_neg z]
      simp only [j_letE, j_bdS, nI_1]
      refine wp2_Ln (by decide) (wp2_Lp o (wp2_Rp o ?_))
      exact hag _ _ (k - 1) (by omega) ⟨i + 1, _, by omega, rfl, by rw [p1]⟩
theorem l_headsAt {F np : Nat} {J K : j_M} (x : Int32) (hF : 20000000 < F) (h1 : J 41 0 = nI np) (h2 : K 215 12 = nI np) (hnp : np ≤ 100) (hp : ∀ i, i < np → vw 43 100 J i 1 = K 223 i ∧ vw 43 100 J i 3 = K 225 i ∧ vw 43 100 J i 4 = K 226 i) : j_wp2 (f_Gu_headsAt F x J) (f_M_headsAt F x K) (fun v J' w K' => v = w ∧ J' = J ∧ K' = K) := by
  unfold f_Gu_headsAt f_Gu_headsAt_4 f_M_headsAt f_M_headsAt_4
  refine j_it2 (Inv := fun k q r => ∃ i acc, i + k = np ∧ q = (x, acc, nI i, J) ∧ r = (x, acc, nI i, K)) ?_ F np _ _ (by omega) ⟨0, 0, by omega, rfl, rfl⟩
  intro k q r g1 g2 hq hag
  obtain ⟨i, acc, hi, rfl, rfl⟩ := hq
  dsimp only
  unfold f_Gu_headsAt_4b f_M_headsAt_4b
  rw [h1, h2]
  by_cases e : i = np
  · have c : nI np ≤ nI i := nI_le (by omega) (by omega)
    exact wp2_Lp c (wp2_Rp c (wp2_mk rfl rfl ⟨rfl, rfl, rfl⟩))
  · have c : ¬ nI np ≤ nI i := nI_ge (by omega) (by omega)
    have o : j_ok (nI i) 100 = true := j_ok_nI (by omega) (by decide)
    obtain ⟨p1, p3, p4⟩ := hp i (by omega)
    refine wp2_Ln c (wp2_Rn c (wp2_Lp o (wp2_Rp o ?_)))
    unfold f_Gu_headsAt_49 f_M_headsAt_41 f_M_headsAt_42
    simp only [j_letE, nI_1, j_ix_nI (show i < 2 ^ 31 by omega), vw_at (show i < 100 by omega), p1, p3, p4, Int32.add_zero]
    refine wp2_ite Iff.rfl (fun z => wp2_Lp o (wp2_Rp o (wp2_ite Iff.rfl (fun z => wp2_Lp o (wp2_Rp o ?_)) (fun z => ?_)))) (fun z => ?_)
    · exact hag _ _ (k - 1) (by omega) ⟨i + 1, _, by omega, rfl, rfl⟩
    · exact hag _ _ (k - 1) (by omega) ⟨i + 1, _, by omega, rfl, rfl⟩
    · exact hag _ _ (k - 1) (by omega) ⟨i + 1, _, by omega, rfl, rfl⟩
theorem e_rains {F m : Nat} {J : j_M} (hm : m < 480) : f_Sk_rains F (nI m) J = some (if J 39 m = 0 then 0 else 1, J) := by
  unfold f_Sk_rains
  rw [e_within, if_pos ⟨nI_pos' (by omega), nI_le (b := 479) (by omega) (by decide)⟩]
  simp only [j_bdS]
  rw [if_neg (by decide), if_pos (j_ok_nI hm (by decide)), j_ix_nI (by omega)]
  by_cases z : J 39 m = 0
  · rw [if_pos z, if_pos z]
  · rw [if_neg z, if_neg z]
theorem e_rainsIn {F m r : Nat} {K : j_M} {wet : Nat → Int32} (hF : 20000000 < F) (hm : m < 480) (h : R_rn r wet (K 219) (K 220)) (hr : r ≤ 20) (hk : K 215 7 = nI r) : f_M_rainsIn F (nI m) K = some (wet m, K) := by
  have hw : j_wpo (f_M_rainsIn F (nI m) K) (fun v K' => v = wet m ∧ K' = K) := by
    unfold f_M_rainsIn f_M_rainsIn_2
    refine j_it_wp (Inv := fun k q => ∃ j, j + k = r ∧ q = (nI m, nI j, K) ∧ ∀ t, t < j → ¬ (K 219 t ≤ nI m ∧ nI m < K 220 t)) ?_ F r _ (by omega) ⟨0, by omega, rfl, fun t ht => absurd ht (by omega)⟩
    intro k q g hq hag
    obtain ⟨j, hj, rfl, hno⟩ := hq
    dsimp only
    unfold f_M_rainsIn_2b f_M_rainsIn_32
    rw [hk]
    obtain ⟨w1, w2⟩ := h m hm
    by_cases e : j = r
    · refine wpo_pos (nI_le (by omega) (by omega)) (wpo_some ⟨?_, rfl⟩)
      rcases w1 with w1 | w1
      · exact w1.symm
      · obtain ⟨t, ht, ht2⟩ := w2.mp w1
        exact absurd ht2 (hno t (by omega))
    · have o : j_ok (nI j) 20 = true := j_ok_nI (by omega) (by decide)
      refine wpo_neg (nI_ge (by omega) (by omega)) (wpo_pos o ?_)
      simp only [j_letE, nI_1, j_ix_nI (show j < 2 ^ 31 by omega)]
      have next : ¬ (K 219 j ≤ nI m ∧ nI m < K 220 j) → j_wpo (g (nI m, nI (j + 1), K)) (fun v K' => v = wet m ∧ K' = K) := fun z => hag _ (k - 1) (by omega) ⟨j + 1, by omega, rfl, fun t ht => by
        by_cases e2 : t = j
        · subst e2; exact z
        · exact hno t (by omega)⟩
      refine wpo_ite (fun z => next (fun y => absurd y.1 (Int32.not_le.mpr z))) (fun z => wpo_pos o (wpo_ite (fun z2 => next (fun y => absurd z2 (Int32.not_le.mpr y.2))) (fun z2 => wpo_some ⟨?_, rfl⟩)))
      exact (w2.mpr ⟨j, by omega, Int32.not_lt.mp z, Int32.not_le.mp z2⟩).symm
  obtain ⟨v, K', e, rfl, rfl⟩ := hw
  exact e
theorem l_wet {F c m r : Nat} {J K : j_M} (hF : 20000000 < F) (hc : c ≤ m) (hm : m < 480) (h : R_rn r (J 39) (K 219) (K 220)) (hr : r ≤ 20) (hk : K 215 7 = nI r) (hmk : K 215 2 = nI m) : j_wp2 (f_Sk_wetMinutes F (nI c) (nI m) J) (f_M_rainSince F (nI c) K) (fun v J' w K' => v = w ∧ J' = J ∧ K' = K) := by
  unfold f_Sk_wetMinutes f_Sk_wetMinutes_5 f_M_rainSince f_M_rainSince_4
  refine j_it2 (Inv := fun k q r => ∃ i acc, i + k = m + 1 ∧ q = (nI m, acc, nI i, J) ∧ r = (acc, nI i, K)) ?_ F (m + 1 - c) _ _ (by omega) ⟨c, 0, by omega, rfl, rfl⟩
  intro k q r2 g1 g2 hq hag
  obtain ⟨i, acc, hi, rfl, rfl⟩ := hq
  dsimp only
  unfold f_Sk_wetMinutes_5b f_M_rainSince_4b
  rw [hmk]
  by_cases e : i = m + 1
  · have c : nI m < nI i := nI_lt (by omega) (by omega)
    exact wp2_Lp c (wp2_Rp c (wp2_mk rfl rfl ⟨rfl, rfl, rfl⟩))
  · have c : ¬ nI m < nI i := nI_nlt (by omega) (by omega)
    refine wp2_Ln c (wp2_Rn c ?_)
    rw [e_rains (by omega), e_rainsIn hF (by omega) h hr hk]
    unfold f_Sk_wetMinutes_26 f_M_rainSince_26
    simp only [j_bdS, j_letE, nI_1]
    have e0 : (if J 39 i = 0 then (0 : Int32) else 1) = J 39 i := by
      rcases (h i (by omega)).1 with w | w <;> rw [w] <;> rfl
    rw [e0]
    exact wp2_ite Iff.rfl (fun z => hag _ _ (k - 1) (by omega) ⟨i + 1, _, by omega, rfl, rfl⟩) (fun z => hag _ _ (k - 1) (by omega) ⟨i + 1, _, by omega, rfl, rfl⟩)
theorem nI_dn (j : Nat) : nI j + (-1) = nI j - 1 := (Int32.sub_eq_add_neg _ _).symm
theorem nI_m1lt : nI 0 - 1 < 0 := by decide
/-- which price holds: the same one on both sides, or none -/
def p_lat (npr : Nat) (v w : Int32) : Prop := (v = -1 ∧ w = -2) ∨ ∃ o, o < npr ∧ v = nI o ∧ w = nI o
theorem l_latest {F npr : Nat} {J K : j_M} (x1 x2 x3 : Int32) (hF : 20000000 < F) (h1 : J 202 0 = nI npr) (h2 : K 215 52 = nI npr) (hnp : npr ≤ 30) (r1 : J 205 = K 246) (r2 : J 206 = K 248) (r3 : J 207 = K 247) : j_wp2 (f_Pr_latest F x1 x2 x3 J) (f_M_forceOn F x1 x2 x3 K) (fun v J' w K' => p_lat npr v w ∧ J' = J ∧ K' = K) := by
  unfold f_Pr_latest f_Pr_latest_8 f_M_forceOn f_M_forceOn_8
  rw [h1, h2]
  refine j_it2 (Inv := fun k q r => k ≤ npr ∧ q = (x1, x2, x3, nI k - 1, J) ∧ r = (x1, x2, x3, nI k - 1, K)) ?_ F npr _ _ (by omega) ⟨by omega, rfl, rfl⟩
  intro k q r g1 g2 hq hag
  obtain ⟨hk, rfl, rfl⟩ := hq
  dsimp only
  unfold f_Pr_latest_8b f_M_forceOn_8b
  cases k with
  | zero => exact wp2_Lp nI_m1lt (wp2_Rp nI_m1lt (wp2_mk rfl rfl ⟨Or.inl ⟨rfl, rfl⟩, rfl, rfl⟩))
  | succ k =>
    rw [nI_pred]
    have c : ¬ nI k < 0 := nI_pos (by omega)
    have o : j_ok (nI k) 30 = true := j_ok_nI (by omega) (by decide)
    refine wp2_Ln c (wp2_Rn c (wp2_Lp o (wp2_Rp o ?_)))
    unfold f_Pr_latest_49 f_M_forceOn_49
    rw [r1, r2, r3, j_ix_nI (by omega)]
    simp only [j_letE, nI_dn]
    have next : j_wp2 (g1 (x1, x2, x3, nI k - 1, J)) (g2 (x1, x2, x3, nI k - 1, K)) (fun v J' w K' => p_lat npr v w ∧ J' = J ∧ K' = K) := hag _ _ k (by omega) ⟨by omega, rfl, rfl⟩
    refine wp2_ite Iff.rfl (fun z => wp2_Lp o (wp2_Rp o (wp2_ite Iff.rfl (fun z => next) (fun z => wp2_Lp o (wp2_Rp o (wp2_ite Iff.rfl (fun z => next) (fun z => wp2_mk rfl rfl ⟨Or.inr ⟨k, by omega, rfl, rfl⟩, rfl, rfl⟩))))))) (fun z => next)
theorem l_shows {F np : Nat} {J : j_M} (x : Int32) (hF : 20000000 < F) (h1 : J 41 0 = nI np) (hnp : np ≤ 100) : j_wpo (f_Gu_showsTwice F x J) (fun v J' => J' = J ∧ ((v = 1 ∧ ∃ i, i < np ∧ (∀ j, j < i → ¬ (vw 43 100 J j 2 = x ∧ ¬ vw 43 100 J j 3 = 2)) ∧ vw 43 100 J i 2 = x ∧ ¬ vw 43 100 J i 3 = 2) ∨ (v = 0 ∧ ∀ j, j < np → ¬ (vw 43 100 J j 2 = x ∧ ¬ vw 43 100 J j 3 = 2)))) := by
  unfold f_Gu_showsTwice f_Gu_showsTwice_2
  refine j_it_wp (Inv := fun k q => ∃ j, j + k = np ∧ q = (x, nI j, J) ∧ ∀ t, t < j → ¬ (vw 43 100 J t 2 = x ∧ ¬ vw 43 100 J t 3 = 2)) ?_ F np _ (by omega) ⟨0, by omega, rfl, fun t ht => absurd ht (by omega)⟩
  intro k q g hq hag
  obtain ⟨j, hj, rfl, hno⟩ := hq
  dsimp only
  unfold f_Gu_showsTwice_2b f_Gu_showsTwice_37 f_Pa_isIn
  rw [h1]
  by_cases e : j = np
  · refine wpo_pos (nI_le (by omega) (by omega)) (wpo_some ⟨rfl, Or.inr ⟨rfl, by subst e; exact hno⟩⟩)
  · have o : j_ok (nI j) 100 = true := j_ok_nI (by omega) (by decide)
    refine wpo_neg (nI_ge (by omega) (by omega)) (wpo_pos o ?_)
    simp only [j_letE, nI_1, j_ix_nI (show j < 2 ^ 31 by omega), vw_at (show j < 100 by omega)]
    have next : ¬ (vw 43 100 J j 2 = x ∧ ¬ vw 43 100 J j 3 = 2) → j_wpo (g (x, nI (j + 1), J)) _ := fun z => hag _ (k - 1) (by omega) ⟨j + 1, by omega, rfl, fun t ht => by
      by_cases e2 : t = j
      · subst e2; exact z
      · exact hno t (by omega)⟩
    by_cases z : vw 43 100 J j 3 = 2
    · rw [if_pos z]; exact next (fun y => y.2 z)
    · rw [if_neg z]
      simp only [j_bdS]
      refine wpo_neg (by decide) (wpo_pos o (wpo_ite (fun z2 => wpo_some ⟨rfl, Or.inl ⟨rfl, j, by omega, hno, z2, z⟩⟩) (fun z2 => next (fun y => z2 y.1))))
theorem nI_nem {n : Nat} (h : n < 2 ^ 31) : ¬ nI n = -1 := fun z => by
  have := congrArg Int32.toInt z
  rw [nI_toInt h] at this
  have e1 : (-1 : Int32).toInt = -1 := by decide
  rw [e1] at this
  omega
theorem l_whoIn {F np nb b : Nat} {J K : j_M} (hF : 20000000 < F) (h2 : K 215 12 = nI np) (hnp : np ≤ 100) (hb : b < nb) (hp : ∀ i, i < np → vw 43 100 J i 6 = K 228 i) (hbx : R_bx np nb (vw 43 100 J) (J 197)) : j_wpo (f_M_whoIn F (nI b) K) (fun w K' => K' = K ∧ ((J 197 b = -1 ∧ w = -2) ∨ ∃ i, i < np ∧ J 197 b = nI i ∧ w = nI i)) := by
  unfold f_M_whoIn f_M_whoIn_2
  refine j_it_wp (Inv := fun k q => ∃ j, j + k = np ∧ q = (nI b, nI j, K) ∧ ∀ t, t < j → ¬ K 228 t = nI b) ?_ F np _ (by omega) ⟨0, by omega, rfl, fun t ht => absurd ht (by omega)⟩
  intro k q g hq hag
  obtain ⟨j, hj, rfl, hno⟩ := hq
  dsimp only
  unfold f_M_whoIn_2b
  rw [h2]
  by_cases e : j = np
  · refine wpo_pos (nI_le (by omega) (by omega)) (wpo_some ⟨rfl, ?_⟩)
    rcases hbx b hb with ⟨y1, y2⟩ | ⟨i, y1, y2, y3, y4⟩
    · exact Or.inl ⟨y1, rfl⟩
    · rw [hp i y1] at y3; exact absurd y3 (hno i (by omega))
  · have o : j_ok (nI j) 100 = true := j_ok_nI (by omega) (by decide)
    refine wpo_neg (nI_ge (by omega) (by omega)) (wpo_pos o ?_)
    simp only [j_letE, nI_1, j_ix_nI (show j < 2 ^ 31 by omega)]
    refine wpo_ite (fun z => wpo_some ⟨rfl, ?_⟩) (fun z => hag _ (k - 1) (by omega) ⟨j + 1, by omega, rfl, fun t ht => by
      by_cases e2 : t = j
      · subst e2; exact z
      · exact hno t (by omega)⟩)
    rw [← hp j (by omega)] at z
    rcases hbx b hb with ⟨y1, y2⟩ | ⟨i, y1, y2, y3, y4⟩
    · exact absurd z (y2 j (by omega))
    · have := y4 j (by omega) z
      subst this
      exact Or.inr ⟨j, by omega, y2, rfl⟩
