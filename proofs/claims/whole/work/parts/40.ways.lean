/-! shortest ways: by potentials. Rch: no potential rises more than s from a to b -/
def p_Pot (n : Nat) (w : Nat → Nat → Nat) (f : Nat → Nat) : Prop := ∀ x y, x < n → y < n → w x y ≠ 0 → f y ≤ f x + w x y
def p_Rch (n : Nat) (w : Nat → Nat → Nat) (a b s : Nat) : Prop := ∀ f : Nat → Nat, p_Pot n w f → f b ≤ f a + s
theorem p_Rch.rf {n : Nat} {w : Nat → Nat → Nat} (a : Nat) : p_Rch n w a a 0 := fun _ _ => by omega
theorem p_Rch.edge {n : Nat} {w : Nat → Nat → Nat} {a b : Nat} (ha : a < n) (hb : b < n) (h : w a b ≠ 0) : p_Rch n w a b (w a b) := fun f hf => hf a b ha hb h
theorem p_Rch.tr {n : Nat} {w : Nat → Nat → Nat} {a b c s t : Nat} (h1 : p_Rch n w a b s) (h2 : p_Rch n w b c t) : p_Rch n w a c (s + t) := fun f hf => by
  have := h1 f hf
  have := h2 f hf
  omega
def p_dir0 (w : Nat → Nat → Nat) (a b : Nat) : Nat := if a = b then 0 else if w a b = 0 then 1000000 else w a b
/-- behind k stages -/
def p_FW (n : Nat) (w : Nat → Nat → Nat) (k : Nat) (D : Nat → Nat → Nat) : Prop := (∀ a, a < n → D a a = 0) ∧ (∀ a b, a < n → b < n → D a b ≤ 1000000 ∧ D a b ≤ p_dir0 w a b) ∧ (∀ a b, a < n → b < n → D a b = 1000000 ∨ p_Rch n w a b (D a b)) ∧ ∀ c, c < k → ∀ a b, a < n → b < n → D a b ≤ D a c + D c b
def p_fwS (n k : Nat) (D : Nat → Nat → Nat) (a b : Nat) : Nat := if a < n ∧ b < n then (if D a k + D k b < D a b then D a k + D k b else D a b) else D a b
theorem p_FW_0 {n : Nat} {w : Nat → Nat → Nat} (hw : ∀ a b, w a b ≤ 60) : p_FW n w 0 (p_dir0 w) := by
  refine ⟨fun a _ => by simp [p_dir0], fun a b _ _ => ⟨?_, Nat.le_refl _⟩, fun a b ha hb => ?_, fun c hc => absurd hc (by omega)⟩
  · unfold p_dir0
    have := hw a b
    repeat' split
    all_goals omega
  · unfold p_dir0
    by_cases h1 : a = b
    · subst h1; simp; exact p_Rch.rf a
    · rw [if_neg h1]
      by_cases h2 : w a b = 0
      · rw [if_pos h2]; exact Or.inl rfl
      · rw [if_neg h2]; exact Or.inr (p_Rch.edge ha hb h2)
theorem p_fwS_le (n k : Nat) (D : Nat → Nat → Nat) (a b : Nat) : p_fwS n k D a b ≤ D a b := by
  unfold p_fwS
  repeat' split
  all_goals omega
theorem p_fwS_in {n k : Nat} {D : Nat → Nat → Nat} {a b : Nat} (ha : a < n) (hb : b < n) : p_fwS n k D a b ≤ D a k + D k b ∧ (p_fwS n k D a b = D a b ∨ p_fwS n k D a b = D a k + D k b) := by
  unfold p_fwS
  rw [if_pos ⟨ha, hb⟩]
  split
  · omega
  · omega
theorem p_fwS_col {n k : Nat} {D : Nat → Nat → Nat} (hz : D k k = 0) (a : Nat) : p_fwS n k D a k = D a k := by
  unfold p_fwS
  repeat' split
  all_goals omega
theorem p_fwS_row {n k : Nat} {D : Nat → Nat → Nat} (hz : D k k = 0) (b : Nat) : p_fwS n k D k b = D k b := by
  unfold p_fwS
  repeat' split
  all_goals omega
theorem p_FW_step {n k : Nat} {w : Nat → Nat → Nat} {D : Nat → Nat → Nat} (hk : k < n) (h : p_FW n w k D) : p_FW n w (k + 1) (p_fwS n k D) := by
  obtain ⟨h0, h1, h2, h3⟩ := h
  have hz := h0 k hk
  refine ⟨fun a ha => ?_, fun a b ha hb => ?_, fun a b ha hb => ?_, fun c hc a b ha hb => ?_⟩
  · have := p_fwS_le n k D a a
    have := h0 a ha
    omega
  · have := p_fwS_le n k D a b
    have := h1 a b ha hb
    omega
  · rcases (p_fwS_in (D := D) (k := k) ha hb).2 with e | e
    · rw [e]; exact h2 a b ha hb
    · have hle := p_fwS_le n k D a b
      have hb1 := (h1 a b ha hb).1
      rcases h2 a k ha hk with e1 | e1
      · left; omega
      · rcases h2 k b hk hb with e2 | e2
        · left; omega
        · right; rw [e]; exact e1.tr e2
  · by_cases hck : c = k
    · subst hck
      rw [p_fwS_col hz, p_fwS_row hz]
      exact (p_fwS_in ha hb).1
    · have hc' : c < k := by omega
      have hcn : c < n := by omega
      have t1 := h3 c hc' a b ha hb
      have t2 := h3 c hc' k b hk hb
      have t3 := h3 c hc' a k ha hk
      have u1 := (p_fwS_in (D := D) (k := k) ha hb).1
      have u0 := p_fwS_le n k D a b
      rcases (p_fwS_in (D := D) (k := k) ha hcn).2 with e1 | e1 <;> rcases (p_fwS_in (D := D) (k := k) hcn hb).2 with e2 | e2 <;> rw [e1, e2] <;> omega
/-- what the class's table of ways is -/
def p_Dist (n : Nat) (w D : Nat → Nat → Nat) : Prop := (∀ a, a < n → D a a = 0) ∧ (∀ a b, a < n → b < n → D a b ≤ 1000000 ∧ (D a b = 1000000 ∨ p_Rch n w a b (D a b))) ∧ ∀ a b c, a < n → b < n → c < n → w c b ≠ 0 → D a b ≤ D a c + w c b
theorem p_FW_end {n : Nat} {w D : Nat → Nat → Nat} (h : p_FW n w n D) : p_Dist n w D := by
  obtain ⟨h0, h1, h2, h3⟩ := h
  refine ⟨h0, fun a b ha hb => ⟨(h1 a b ha hb).1, h2 a b ha hb⟩, fun a b c ha hb hc hw => ?_⟩
  have t := h3 c hc a b ha hb
  have u := (h1 c b hc hb).2
  unfold p_dir0 at u
  by_cases e : c = b
  · subst e; omega
  · rw [if_neg e, if_neg hw] at u; omega
/-- what relaxing ends with is the same -/
theorem p_Dist_unique {n a : Nat} {w D : Nat → Nat → Nat} {f : Nat → Nat} (h : p_Dist n w D) (ha : a < n) (f0 : f a = 0) (fp : p_Pot n w f) (fr : ∀ b, b < n → f b ≤ 1000000 ∧ (f b = 1000000 ∨ p_Rch n w a b (f b))) : ∀ b, b < n → f b = D a b := by
  intro b hb
  obtain ⟨h0, h1, h2⟩ := h
  have hD : p_Pot n w (fun y => D a y) := fun x y hx hy hw => h2 a y x ha hy hx hw
  have l1 : f b ≤ D a b := by
    rcases (h1 a b ha hb).2 with e | e
    · rw [e]; exact (fr b hb).1
    · have := e f fp; omega
  have l2 : D a b ≤ f b := by
    rcases (fr b hb).2 with e | e
    · rw [e]; exact (h1 a b ha hb).1
    · have := e _ hD
      have := h0 a ha
      simp at *
      omega
  omega
/-! the second half of Grounds.measure -/
def p_mat (I : j_M) (D : Nat → Nat → Nat) : Prop := ∀ x y, x < 16 → y < 16 → I (22 + x) y = nI (D x y)
def p_oth (I0 I : j_M) : Prop := ∀ c k, ¬ (22 ≤ c ∧ c < 38 ∧ k < 16) → I c k = I0 c k
/-- in the midst of stage k: the entries ahead of (a, b) are done -/
def p_mid (n k : Nat) (D : Nat → Nat → Nat) (a b x y : Nat) : Nat := if x < a ∨ (x = a ∧ y < b) then p_fwS n k D x y else D x y
theorem p_mid_read {n k : Nat} {D : Nat → Nat → Nat} (hz : D k k = 0) (a b : Nat) : (∀ x, p_mid n k D a b x k = D x k) ∧ ∀ y, p_mid n k D a b k y = D k y := by
  refine ⟨fun x => ?_, fun y => ?_⟩
  · unfold p_mid; rw [p_fwS_col hz]; simp
  · unfold p_mid; rw [p_fwS_row hz]; simp
theorem p_measure_93 {I0 : j_M} {Po : Int32 → j_M → Prop} {F n k a : Nat} {D : Nat → Nat → Nat} {kb83 : Int32 → Int32 → j_M → Option (Int32 × j_M)} (hF : 20 < F) (hn : n ≤ 16) (h0 : I0 1 0 = nI n) (hk : k < n) (ha : a < n) (hz : D k k = 0) (hD : ∀ x y, x < n → y < n → D x y ≤ 1000000) (hkk : ∀ I, p_oth I0 I → p_mat I (p_mid n k D (a + 1) 0) → j_wpo (kb83 (nI k) (nI (a + 1)) I) Po) (I : j_M) (hI : p_oth I0 I) (hm : p_mat I (p_mid n k D a 0)) : j_wpo (f_Gr_measure_93 F kb83 (nI k) (nI a) 0 I) Po := by
  unfold f_Gr_measure_93
  refine j_it_wp (Inv := fun r q => ∃ j, j + r = n ∧ q.1 = nI k ∧ q.2.1 = nI a ∧ q.2.2.1 = nI j ∧ p_oth I0 q.2.2.2 ∧ p_mat q.2.2.2 (p_mid n k D a j)) ?_ F n _ (by omega) ⟨0, by omega, rfl, rfl, rfl, hI, hm⟩
  intro r q again hq hag
  obtain ⟨x1, x2, x3, I⟩ := q
  obtain ⟨j, hj, e1, e2, e3, hI, hm⟩ := hq
  dsimp only at e1 e2 e3 hI hm ⊢
  subst e1
  subst e2
  subst e3
  unfold f_Gr_measure_93b
  rw [hI 1 0 (by omega), h0]
  refine wpo_ite (fun h => ?_) (fun h => ?_)
  · have hjn : j = n := by
      have : n ≤ j := (nI_leI (by omega) (by omega)).mp h
      omega
    subst hjn
    refine wpo_let ?_
    rw [nI_1]
    refine hkk I hI (fun x y hx hy => ?_)
    rw [hm x y hx hy]
    unfold p_mid
    by_cases e : x < a
    · rw [if_pos (Or.inl e), if_pos (Or.inl (by omega))]
    · by_cases e2 : x = a
      · subst e2
        by_cases e3 : y < j
        · rw [if_pos (Or.inr ⟨rfl, e3⟩), if_pos (Or.inl (by omega))]
        · rw [if_neg (by omega), if_pos (Or.inl (by omega))]
          unfold p_fwS
          rw [if_neg (by omega)]
      · rw [if_neg (by omega), if_neg (by omega)]
  · have hjn : j < n := by
      rcases Nat.lt_or_ge j n with h1 | h1
      · exact h1
      · exact absurd (nI_le h1 (by omega)) h
    have oka := j_ok_nI (a := a) (N := 16) (by omega) (by omega)
    have okj := j_ok_nI (a := j) (N := 16) (by omega) (by omega)
    have okk := j_ok_nI (a := k) (N := 16) (by omega) (by omega)
    refine wpo_pos oka (wpo_pos oka (wpo_pos okj (wpo_pos oka (wpo_pos okk (wpo_pos okk (wpo_pos okj ?_))))))
    rw [j_ix_nI (a := a) (by omega), j_ix_nI (a := j) (by omega), j_ix_nI (a := k) (by omega)]
    have r1 : I (22 + a) k = nI (D a k) := by rw [hm a k (by omega) (by omega), (p_mid_read hz a j).1]
    have r2 : I (22 + k) j = nI (D k j) := by rw [hm k j (by omega) (by omega), (p_mid_read hz a j).2]
    have r3 : I (22 + a) j = nI (D a j) := by
      rw [hm a j (by omega) (by omega)]
      unfold p_mid
      rw [if_neg (by omega)]
    rw [r1, r2, r3, nI_add]
    have b1 := hD a k ha hk
    have b2 := hD k j hk hjn
    have b3 := hD a j ha hjn
    have hv : (if nI (D a k + D k j) < nI (D a j) then nI (D a k + D k j) else nI (D a j)) = nI (p_fwS n k D a j) := by
      unfold p_fwS
      by_cases e : D a k + D k j < D a j
      · rw [if_pos (nI_lt e (by omega)), if_pos (⟨ha, hjn⟩ : a < n ∧ j < n), if_pos e]
      · rw [if_neg (nI_nlt (by omega) (by omega)), if_pos (⟨ha, hjn⟩ : a < n ∧ j < n), if_neg e]
    refine wpo_let ?_
    rw [hv]
    refine wpo_pos okj (wpo_let (wpo_let ?_))
    rw [nI_1]
    refine hag _ (r - 1) (by omega) ⟨j + 1, by omega, rfl, rfl, rfl, fun c y hc => ?_, fun x y hx hy => ?_⟩
    · show j_wr I (22 + a) j _ c y = _
      rw [j_wr_at, if_neg (by omega)]
      exact hI c y hc
    · show j_wr I (22 + a) j _ (22 + x) y = _
      rw [j_wr_at]
      by_cases e : x = a ∧ y = j
      · obtain ⟨e1, e2⟩ := e
        subst e1
        subst e2
        rw [if_pos ⟨rfl, rfl⟩]
        unfold p_mid
        rw [if_pos (Or.inr ⟨rfl, by omega⟩)]
      · rw [if_neg (by omega), hm x y hx hy]
        unfold p_mid
        by_cases e2 : x < a ∨ (x = a ∧ y < j)
        · rw [if_pos e2, if_pos (by omega)]
        · rw [if_neg e2, if_neg (by omega)]
theorem p_measure_83 {I0 : j_M} {Po : Int32 → j_M → Prop} {F n k : Nat} {D : Nat → Nat → Nat} {kb73 : Int32 → j_M → Option (Int32 × j_M)} (hF : 20 < F) (hn : n ≤ 16) (h0 : I0 1 0 = nI n) (hk : k < n) (hz : D k k = 0) (hD : ∀ x y, x < n → y < n → D x y ≤ 1000000) (hkk : ∀ I, p_oth I0 I → p_mat I (p_fwS n k D) → j_wpo (kb73 (nI (k + 1)) I) Po) (I : j_M) (hI : p_oth I0 I) (hm : p_mat I D) : j_wpo (f_Gr_measure_83 F kb73 (nI k) 0 I) Po := by
  unfold f_Gr_measure_83
  refine j_it_wp (Inv := fun r q => ∃ a, a + r = n ∧ q.1 = nI k ∧ q.2.1 = nI a ∧ p_oth I0 q.2.2 ∧ p_mat q.2.2 (p_mid n k D a 0)) ?_ F n _ (by omega) ⟨0, by omega, rfl, rfl, hI, fun x y hx hy => (hm x y hx hy).trans (by simp [p_mid])⟩
  intro r q again hq hag
  obtain ⟨x1, x2, I⟩ := q
  obtain ⟨a, hr, e1, e2, hI, hm⟩ := hq
  dsimp only at e1 e2 hI hm ⊢
  subst e1
  subst e2
  unfold f_Gr_measure_83b
  rw [hI 1 0 (by omega), h0]
  refine wpo_ite (fun h => ?_) (fun h => ?_)
  · have han : a = n := by
      have : n ≤ a := (nI_leI (by omega) (by omega)).mp h
      omega
    subst han
    refine wpo_let ?_
    rw [nI_1]
    refine hkk I hI (fun x y hx hy => ?_)
    rw [hm x y hx hy]
    unfold p_mid
    by_cases e : x < a
    · rw [if_pos (Or.inl e)]
    · rw [if_neg (by omega)]
      unfold p_fwS
      rw [if_neg (by omega)]
  · have han : a < n := by
      rcases Nat.lt_or_ge a n with h1 | h1
      · exact h1
      · exact absurd (nI_le h1 (by omega)) h
    exact p_measure_93 hF hn h0 hk han hz hD (fun I1 h1 h2 => hag (nI k, nI (a + 1), I1) (r - 1) (by omega) ⟨a + 1, by omega, rfl, rfl, h1, h2⟩) I hI hm
/-- Grounds.measure: the table of ways is that of the least minutes -/
theorem p_measure {I0 : j_M} {F n : Nat} {w : Nat → Nat → Nat} (hF : 20 < F) (hn : n ≤ 16) (h0 : I0 1 0 = nI n) (hw : ∀ a b, w a b ≤ 60) (hwm : ∀ a b, a < 16 → b < 16 → I0 (5 + a) b = nI (w a b)) : j_wpo (f_Gr_measure F I0) (fun v I => v = 0 ∧ p_oth I0 I ∧ ∃ D, p_mat I D ∧ p_Dist n w D ∧ ∀ a b, (n ≤ a ∨ n ≤ b) → D a b = p_dir0 w a b) := by
  refine p_measure_dir hF (fun I hI => ?_)
  have hm0 : p_mat I (p_dir0 w) := fun x y hx hy => by
    rw [hI.2.1 x hx y hy]
    unfold p_dir p_dir0
    rw [hwm x y hx hy]
    have := hw x y
    by_cases e : x = y
    · rw [if_pos e, if_pos e]; rfl
    · rw [if_neg e, if_neg e]
      by_cases e2 : w x y = 0
      · rw [if_pos e2, if_pos (by rw [e2]; rfl)]; rfl
      · rw [if_neg e2, if_neg (show ¬ nI (w x y) = 0 from fun z => e2 ((nI_eq (b := 0) (by omega) (by omega)).mp z))]
  have hI1 : p_oth I0 I := hI.1
  unfold f_Gr_measure_73
  refine j_it_wp (Inv := fun r (q : Int32 × j_M) => ∃ k D, k + r = n ∧ q.1 = nI k ∧ p_oth I0 q.2 ∧ p_mat q.2 D ∧ p_FW n w k D ∧ ∀ a b, (n ≤ a ∨ n ≤ b) → D a b = p_dir0 w a b) ?_ F n _ (by omega) ⟨0, p_dir0 w, by omega, rfl, hI1, hm0, p_FW_0 hw, fun _ _ _ => rfl⟩
  intro r q again hq hag
  obtain ⟨x1, I⟩ := q
  obtain ⟨k, D, hr, e1, hI, hm, hfw, hout⟩ := hq
  dsimp only at e1 hI hm ⊢
  subst e1
  unfold f_Gr_measure_73b
  rw [hI 1 0 (by omega), h0]
  refine wpo_ite (fun h => ?_) (fun h => ?_)
  · have hkn : k = n := by
      have : n ≤ k := (nI_leI (by omega) (by omega)).mp h
      omega
    subst hkn
    exact wpo_some ⟨rfl, hI, D, hm, p_FW_end hfw, hout⟩
  · have hkn : k < n := by
      rcases Nat.lt_or_ge k n with h1 | h1
      · exact h1
      · exact absurd (nI_le h1 (by omega)) h
    refine p_measure_83 hF hn h0 hkn (hfw.1 k hkn) (fun x y hx hy => (hfw.2.1 x y hx hy).1) (fun I1 h1 h2 => hag (nI (k + 1), I1) (r - 1) (by omega) ⟨k + 1, p_fwS n k D, by omega, rfl, h1, h2, p_FW_step hkn hfw, fun a b hab => ?_⟩) I hI hm
    unfold p_fwS
    rw [if_neg (by omega)]
    exact hout a b hab
