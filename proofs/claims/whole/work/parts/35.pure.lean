/-! pure tools: what an Option of the pure text comes to; counting loops; small numbers -/
def j_wpo {α : Type} (o : Option (α × j_M)) (Po : α → j_M → Prop) : Prop := ∃ v I', o = some (v, I') ∧ Po v I'
theorem wpo_some {α : Type} {v : α} {I : j_M} {Po : α → j_M → Prop} (h : Po v I) : j_wpo (some (v, I)) Po := ⟨v, I, rfl, h⟩
theorem wpo_ite {α : Type} {c : Prop} [Decidable c] {A B : Option (α × j_M)} {Po : α → j_M → Prop} (ht : c → j_wpo A Po) (hf : ¬ c → j_wpo B Po) : j_wpo (if c then A else B) Po := by
  by_cases h : c
  · rw [if_pos h]; exact ht h
  · rw [if_neg h]; exact hf h
theorem wpo_pos {α : Type} {c : Prop} [Decidable c] {A B : Option (α × j_M)} {Po : α → j_M → Prop} (hc : c) (ht : j_wpo A Po) : j_wpo (if c then A else B) Po := by rw [if_pos hc]; exact ht
theorem wpo_neg {α : Type} {c : Prop} [Decidable c] {A B : Option (α × j_M)} {Po : α → j_M → Prop} (hc : ¬ c) (ht : j_wpo B Po) : j_wpo (if c then A else B) Po := by rw [if_neg hc]; exact ht
theorem wpo_let {α β : Type} {x : β} {f : β → Option (α × j_M)} {Po : α → j_M → Prop} (h : j_wpo (f x) Po) : j_wpo (j_let x f) Po := h
theorem wpo_bd {α β : Type} {o : Option (β × j_M)} {k : β → j_M → Option (α × j_M)} {Po : α → j_M → Prop} (h : j_wpo o (fun v I => j_wpo (k v I) Po)) : j_wpo (j_bd o k) Po := by
  obtain ⟨v, I, e, h⟩ := h
  rw [e]
  exact h
theorem wpo_mono {α : Type} {o : Option (α × j_M)} {Po Pq : α → j_M → Prop} (h : j_wpo o Po) (hm : ∀ v I, Po v I → Pq v I) : j_wpo o Pq := by
  obtain ⟨v, I, e, h⟩ := h
  exact ⟨v, I, e, hm v I h⟩
theorem j_it_wp {σ α : Type} {body : (σ → Option (α × j_M)) → σ → Option (α × j_M)} {Po : α → j_M → Prop} (Inv : Nat → σ → Prop) (hs : ∀ (k : Nat) (s : σ) (again : σ → Option (α × j_M)), Inv k s → (∀ s' k', k' < k → Inv k' s' → j_wpo (again s') Po) → j_wpo (body again s) Po) : ∀ (fuel k : Nat) (s : σ), k < fuel → Inv k s → j_wpo (j_it body fuel s) Po
  | 0, _, _, h, _ => absurd h (Nat.not_lt_zero _)
  | fuel + 1, k, s, h, hi => hs k s (j_it body fuel) hi (fun s' k' hk hi' => j_it_wp Inv hs fuel k' s' (by omega) hi')
theorem j_ok_nI {a N : Nat} (h : a < N) (hN : N < 2 ^ 31) : j_ok (nI a) N = true := by
  unfold j_ok
  rw [nI_clamp (by omega)]
  exact decide_eq_true ⟨nI_pos' (by omega), h⟩
theorem j_ix_nI {a : Nat} (h : a < 2 ^ 31) : j_ix (nI a) = a := nI_clamp h
theorem j_lit (n : Nat) : (OfNat.ofNat n : Int32) = nI n := rfl
theorem j_wr_at (I : j_M) (c k : Nat) (v : Int32) (x y : Nat) : j_wr I c k v x y = if x = c ∧ y = k then v else I x y := rfl
/-! the garden's direct walks: the first half of Grounds.measure -/
def p_dir (I : j_M) (a k : Nat) : Int32 := if a = k then 0 else if I (5 + a) k = 0 then 1000000 else I (5 + a) k
def p_rowInv (I0 : j_M) (a j : Nat) (I : j_M) : Prop := (∀ c k, ¬ (22 ≤ c ∧ c < 38 ∧ k < 16) → I c k = I0 c k) ∧ (∀ x, x < a → ∀ k, k < 16 → I (22 + x) k = p_dir I0 x k) ∧ ∀ k, k < j → I (22 + a) k = p_dir I0 a k
theorem p_measure_10 {I0 : j_M} {Po : Int32 → j_M → Prop} {F a : Nat} {kb2 : Int32 → j_M → Option (Int32 × j_M)} (hF : 20 < F) (ha : a < 16) (hk : ∀ I, p_rowInv I0 a 16 I → j_wpo (kb2 (nI (a + 1)) I) Po) (I : j_M) (h0 : p_rowInv I0 a 0 I) : j_wpo (f_Gr_measure_10 F kb2 (nI a) 0 I) Po := by
  unfold f_Gr_measure_10
  refine j_it_wp (Inv := fun k q => ∃ j, j + k = 16 ∧ q.1 = nI a ∧ q.2.1 = nI j ∧ p_rowInv I0 a j q.2.2) ?_ F 16 _ (by omega) ⟨0, rfl, rfl, rfl, h0⟩
  intro k q again hq hag
  obtain ⟨x1, x2, I⟩ := q
  obtain ⟨j, hj, e1, e2, hI⟩ := hq
  dsimp only at e1 e2 hI ⊢
  subst e1
  subst e2
  unfold f_Gr_measure_10b
  refine wpo_ite (fun h => ?_) (fun h => ?_)
  · have hj16 : j = 16 := by
      have : 16 ≤ j := (nI_leI (a := 16) (b := j) (by omega) (by omega)).mp h
      omega
    subst hj16
    refine wpo_let ?_
    rw [nI_1]
    exact hk I hI
  · have hjl : j < 16 := by
      rcases Nat.lt_or_ge j 16 with h1 | h1
      · exact h1
      · exact absurd (nI_le (a := 16) h1 (by omega)) h
    have hok : ∀ s2, s2 = (if I (5 + a) j = 0 then 1000000 else I (5 + a) j) → j_wpo (f_Gr_measure_40 F (fun x1 x2 I => again (x1, x2, I)) (nI a) (nI j) s2 I) Po := by
      intro s2 es
      have key : ∀ v : Int32, v = p_dir I0 a j → j_wpo (f_Gr_measure_58 F (fun x1 x2 I => again (x1, x2, I)) (nI a) (nI j) (j_ix (nI a)) (nI j) v I) Po := by
        intro v ev
        unfold f_Gr_measure_58
        refine wpo_pos (j_ok_nI hjl (by omega)) (wpo_let (wpo_let ?_))
        rw [nI_1, j_ix_nI (by omega), j_ix_nI (by omega)]
        refine hag _ (k - 1) (by omega) ⟨j + 1, by omega, rfl, rfl, ?_, ?_, ?_⟩
        · intro c k hck
          show j_wr I (22 + a) j v c k = _
          rw [j_wr_at, if_neg (by omega)]
          exact hI.1 c k hck
        · intro x hx k hk16
          show j_wr I (22 + a) j v (22 + x) k = _
          rw [j_wr_at, if_neg (by omega)]
          exact hI.2.1 x hx k hk16
        · intro k hk1
          show j_wr I (22 + a) j v (22 + a) k = _
          rw [j_wr_at]
          by_cases e : k = j
          · subst e; rw [if_pos ⟨rfl, rfl⟩]; exact ev
          · rw [if_neg (by omega)]; exact hI.2.2 k (by omega)
      unfold f_Gr_measure_40
      refine wpo_pos (j_ok_nI ha (by omega)) (wpo_ite (fun e => key _ ?_) (fun e => key _ ?_))
      · have e2 : a = j := (nI_eq (by omega) (by omega)).mp e
        simp [p_dir, e2]
      · have e2 : a ≠ j := fun z => e (by rw [z])
        rw [es, p_dir, if_neg e2, hI.1 (5 + a) j (by omega)]
    refine wpo_pos (j_ok_nI ha (by omega)) (wpo_pos (j_ok_nI hjl (by omega)) ?_)
    rw [j_ix_nI (by omega), j_ix_nI (by omega)]
    refine wpo_ite (fun e => ?_) (fun e => ?_)
    · exact hok _ (by rw [if_pos e])
    · exact wpo_pos (j_ok_nI ha (by omega)) (wpo_pos (j_ok_nI hjl (by omega)) (hok _ (by rw [if_neg e])))
theorem p_measure_dir {I0 : j_M} {Po : Int32 → j_M → Prop} {F : Nat} (hF : 20 < F) (hk : ∀ I, p_rowInv I0 16 0 I → j_wpo (f_Gr_measure_73 F 0 I) Po) : j_wpo (f_Gr_measure F I0) Po := by
  unfold f_Gr_measure f_Gr_measure_2
  refine j_it_wp (Inv := fun k q => ∃ i, i + k = 16 ∧ q.1 = nI i ∧ p_rowInv I0 i 0 q.2) ?_ F 16 _ (by omega) ⟨0, rfl, rfl, fun _ _ _ => rfl, fun x hx => absurd hx (by omega), fun k hk => absurd hk (by omega)⟩
  intro k q again hq hag
  obtain ⟨x1, I⟩ := q
  obtain ⟨i, hi, e1, hI⟩ := hq
  dsimp only at e1 hI ⊢
  subst e1
  unfold f_Gr_measure_2b
  refine wpo_ite (fun h => ?_) (fun h => ?_)
  · have hi16 : i = 16 := by
      have : 16 ≤ i := (nI_leI (a := 16) (b := i) (by omega) (by omega)).mp h
      omega
    subst hi16
    exact hk I hI
  · have hil : i < 16 := by
      rcases Nat.lt_or_ge i 16 with h1 | h1
      · exact h1
      · exact absurd (nI_le (a := 16) h1 (by omega)) h
    refine p_measure_10 (I0 := I0) hF hil (fun I1 h1 => hag (nI (i + 1), I1) (k - 1) (by omega) ⟨i + 1, by omega, rfl, h1.1, ?_, fun k hk => absurd hk (by omega)⟩) I hI
    intro x hx k hk16
    by_cases e : x = i
    · subst e; exact h1.2.2 k hk16
    · exact h1.2.1 x (by omega) k hk16
theorem p_measure_0 {I0 : j_M} {F : Nat} (hF : 20 < F) (h0 : I0 1 0 = 0) : j_wpo (f_Gr_measure F I0) (fun v I => v = 0 ∧ p_rowInv I0 16 0 I) := by
  refine p_measure_dir hF (fun I hI => ?_)
  unfold f_Gr_measure_73
  obtain ⟨f, rfl⟩ : ∃ f, F = f + 1 := ⟨F - 1, by omega⟩
  rw [j_it_succ]
  unfold f_Gr_measure_73b
  refine wpo_pos ?_ (wpo_some ⟨rfl, hI⟩)
  show I 1 0 ≤ 0
  rw [hI.1 1 0 (by omega), h0]
  decide
