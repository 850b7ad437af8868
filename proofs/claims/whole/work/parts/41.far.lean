/-! the reference's findFar: relaxing to its end gives the least ways -/
def p_sum (f : Nat → Nat) : Nat → Nat
  | 0 => 0
  | n + 1 => p_sum f n + f n
def p_up (f : Nat → Nat) (k v : Nat) : Nat → Nat := fun j => if j = k then v else f j
theorem p_sum_congr {f g : Nat → Nat} : ∀ {n : Nat}, (∀ p, p < n → f p = g p) → p_sum f n = p_sum g n
  | 0, _ => rfl
  | n + 1, h => by rw [p_sum, p_sum, p_sum_congr (fun p hp => h p (by omega)), h n (by omega)]
theorem p_sum_up {f : Nat → Nat} {k v : Nat} : ∀ {n : Nat}, k < n → p_sum (p_up f k v) n + f k = p_sum f n + v
  | 0, h => absurd h (by omega)
  | n + 1, h => by
    rw [p_sum, p_sum]
    by_cases e : k = n
    · subst e
      rw [p_sum_congr (f := p_up f k v) (g := f) (fun p hp => by simp [p_up, show p ≠ k by omega])]
      simp [p_up]
      omega
    · have := p_sum_up (f := f) (v := v) (n := n) (k := k) (by omega)
      have e2 : p_up f k v n = f n := by simp [p_up, show n ≠ k by omega]
      omega
theorem p_sum_le {f : Nat → Nat} {B : Nat} : ∀ {n : Nat}, (∀ p, p < n → f p ≤ B) → p_sum f n ≤ n * B
  | 0, _ => by simp [p_sum]
  | n + 1, h => by
    have h1 := p_sum_le (n := n) (fun p hp => h p (by omega))
    have h2 := h n (by omega)
    rw [p_sum, Nat.succ_mul]
    omega
def p_far (n : Nat) (I : j_M) (f : Nat → Nat) : Prop := ∀ p, p < n → I 221 p = nI (f p)
def p_of (I0 I : j_M) : Prop := ∀ c k, ¬ (c = 221 ∧ k < 16) → I c k = I0 c k
def p_good (n : Nat) (w : Nat → Nat → Nat) (a0 : Nat) (f : Nat → Nat) : Prop := f a0 = 0 ∧ ∀ b, b < n → f b ≤ 1000000 ∧ (f b = 1000000 ∨ p_Rch n w a0 b (f b))
/-- a pass: nothing has changed and what was seen is relaxed, or the sum has fallen -/
def p_pass (n : Nat) (w : Nat → Nat → Nat) (f0 : Nat → Nat) (x2 : Int32) (f : Nat → Nat) (seen : Nat → Nat → Prop) : Prop := (x2 = 0 ∧ (∀ p, p < n → f p = f0 p) ∧ ∀ x y, x < n → y < n → seen x y → w x y ≠ 0 → f y ≤ f x + w x y) ∨ (x2 = 1 ∧ p_sum f n < p_sum f0 n)
theorem p_findFar_54 {I0 : j_M} {Po : Int32 → j_M → Prop} {F n a a0 : Nat} {w : Nat → Nat → Nat} {f0 : Nat → Nat} {kb43 : Int32 → Int32 → j_M → Option (Int32 × j_M)} (hF : 20 < F) (hn : n ≤ 16) (h0 : I0 215 3 = nI n) (hw : ∀ x y, w x y ≤ 60) (hwm : ∀ x y, x < 16 → y < 16 → I0 218 (16 * x + y) = nI (w x y)) (ha : a < n) (ha0 : a0 < n)
    (hk : ∀ (x2 : Int32) (I : j_M) (f : Nat → Nat), p_of I0 I → p_far n I f → p_good n w a0 f → p_pass n w f0 x2 f (fun x _ => x < a + 1) → j_wpo (kb43 x2 (nI (a + 1)) I) Po)
    (x2 : Int32) (I : j_M) (f : Nat → Nat) (hI : p_of I0 I) (hf : p_far n I f) (hg : p_good n w a0 f) (hp : p_pass n w f0 x2 f (fun x _ => x < a)) : j_wpo (f_M_findFar_54 F kb43 x2 (nI a) 0 I) Po := by
  unfold f_M_findFar_54
  refine j_it_wp (Inv := fun r (q : Int32 × Int32 × Int32 × j_M) => ∃ j f, j + r = n ∧ q.2.1 = nI a ∧ q.2.2.1 = nI j ∧ p_of I0 q.2.2.2 ∧ p_far n q.2.2.2 f ∧ p_good n w a0 f ∧ p_pass n w f0 q.1 f (fun x y => x < a ∨ (x = a ∧ y < j))) ?_ F n _ (by omega) ⟨0, f, by omega, rfl, rfl, hI, hf, hg, ?_⟩
  · intro r q again hq hag
    obtain ⟨x2, x3, x4, I⟩ := q
    obtain ⟨j, f, hj, e3, e4, hI, hf, hg, hp⟩ := hq
    dsimp only at e3 e4 hI hf hp ⊢
    subst e3
    subst e4
    unfold f_M_findFar_54b
    rw [hI 215 3 (by omega), h0]
    refine wpo_ite (fun h => ?_) (fun h => ?_)
    · have hjn : j = n := by
        have : n ≤ j := (nI_leI (by omega) (by omega)).mp h
        omega
      subst hjn
      refine wpo_let ?_
      rw [nI_1]
      refine hk x2 I f hI hf hg ?_
      rcases hp with ⟨p1, p2, p3⟩ | hp
      · exact Or.inl ⟨p1, p2, fun x y hx hy hs hne => p3 x y hx hy (by omega) hne⟩
      · exact Or.inr hp
    · have hjn : j < n := by
        rcases Nat.lt_or_ge j n with h1 | h1
        · exact h1
        · exact absurd (nI_le h1 (by omega)) h
      have hix : (16 : Int32) * nI a + nI j = nI (16 * a + j) := by rw [show (16 : Int32) = nI 16 from rfl, pk_mul, nI_add]
      have oka := j_ok_nI (a := a) (N := 16) (by omega) (by omega)
      have okj := j_ok_nI (a := j) (N := 16) (by omega) (by omega)
      rw [hix]
      refine wpo_pos (j_ok_nI (by omega) (by omega)) (wpo_let ?_)
      rw [j_ix_nI (a := 16 * a + j) (by omega), hI 218 _ (by omega), hwm a j (by omega) (by omega), j_ix_nI (a := a) (by omega), j_ix_nI (a := j) (by omega)]
      have hwb := hw a j
      have next : ∀ (x2' : Int32) (I' : j_M) (f' : Nat → Nat), p_of I0 I' → p_far n I' f' → p_good n w a0 f' → p_pass n w f0 x2' f' (fun x y => x < a ∨ (x = a ∧ y < j + 1)) → j_wpo (f_M_findFar_122 F (fun x2 x3 x4 I => again (x2, x3, x4, I)) x2' (nI a) (nI j) I') Po := by
        intro x2' I' f' q1 q2 q3 q4
        unfold f_M_findFar_122
        refine wpo_let ?_
        rw [nI_1]
        exact hag _ (r - 1) (by omega) ⟨j + 1, f', by omega, rfl, rfl, q1, q2, q3, q4⟩
      refine wpo_ite (fun h1 => ?_) (fun h1 => ?_)
      · have hz : w a j = 0 := (nI_eq (b := 0) (by omega) (by omega)).mp h1
        refine next x2 I f hI hf hg ?_
        rcases hp with ⟨p1, p2, p3⟩ | hp
        · refine Or.inl ⟨p1, p2, fun x y hx hy hs hne => ?_⟩
          by_cases e : x = a ∧ y = j
          · obtain ⟨e1, e2⟩ := e; subst e1; subst e2; exact absurd hz hne
          · exact p3 x y hx hy (by omega) hne
        · exact Or.inr hp
      · have hne : w a j ≠ 0 := fun z => h1 (by rw [z]; rfl)
        rw [hf a ha, hf j hjn, nI_add]
        have ba := (hg.2 a ha).1
        have bj := (hg.2 j hjn).1
        refine wpo_pos oka (wpo_pos okj (wpo_ite (fun h2 => ?_) (fun h2 => ?_)))
        · have hlt : f a + w a j < f j := (nI_ltI (by omega) (by omega)).mp h2
          refine wpo_pos oka (wpo_pos okj (wpo_let ?_))
          refine next 1 _ (p_up f j (f a + w a j)) (fun c k hc => ?_) (fun p hp2 => ?_) ⟨?_, fun b hb => ?_⟩ (Or.inr ⟨rfl, ?_⟩)
          · rw [j_wr_at, if_neg (by omega)]; exact hI c k hc
          · rw [j_wr_at]
            by_cases e : p = j
            · subst e; rw [if_pos ⟨rfl, rfl⟩]; simp [p_up]
            · rw [if_neg (by omega), hf p hp2]; simp [p_up, e]
          · have : a0 ≠ j := fun z => by rw [← z, hg.1] at hlt; omega
            simp [p_up, this, hg.1]
          · by_cases e : b = j
            · subst e
              simp only [p_up, if_true]
              refine ⟨by omega, Or.inr ?_⟩
              rcases (hg.2 a ha).2 with e1 | e1
              · omega
              · exact e1.tr (p_Rch.edge ha hb hne)
            · simp only [p_up, if_neg e]; exact hg.2 b hb
          · have hs := p_sum_up (f := f) (v := f a + w a j) (n := n) (k := j) hjn
            rcases hp with ⟨p1, p2, p3⟩ | ⟨p1, p2⟩
            · have := p_sum_congr (f := f) (g := f0) p2; omega
            · omega
        · have hge : f j ≤ f a + w a j := by
            rcases Nat.lt_or_ge (f a + w a j) (f j) with z | z
            · exact absurd (nI_lt z (by omega)) h2
            · exact z
          refine next x2 I f hI hf hg ?_
          rcases hp with ⟨p1, p2, p3⟩ | hp
          · refine Or.inl ⟨p1, p2, fun x y hx hy hs hn2 => ?_⟩
            by_cases e : x = a ∧ y = j
            · obtain ⟨e1, e2⟩ := e; subst e1; subst e2; exact hge
            · exact p3 x y hx hy (by omega) hn2
          · exact Or.inr hp
  · rcases hp with ⟨p1, p2, p3⟩ | hp
    · exact Or.inl ⟨p1, p2, fun x y hx hy hs hne => p3 x y hx hy (by omega) hne⟩
    · exact Or.inr hp
theorem p_findFar_43 {I0 : j_M} {Po : Int32 → j_M → Prop} {F n a0 : Nat} {w : Nat → Nat → Nat} {kb35 : Int32 → j_M → Option (Int32 × j_M)} (hF : 20 < F) (hn : n ≤ 16) (h0 : I0 215 3 = nI n) (hw : ∀ x y, w x y ≤ 60) (hwm : ∀ x y, x < 16 → y < 16 → I0 218 (16 * x + y) = nI (w x y)) (ha0 : a0 < n) (f0 : Nat → Nat)
    (hk : ∀ (x2 : Int32) (I : j_M) (f : Nat → Nat), p_of I0 I → p_far n I f → p_good n w a0 f → p_pass n w f0 x2 f (fun _ _ => True) → j_wpo (kb35 x2 I) Po)
    (I : j_M) (hI : p_of I0 I) (hf : p_far n I f0) (hg : p_good n w a0 f0) : j_wpo (f_M_findFar_43 F kb35 0 0 I) Po := by
  unfold f_M_findFar_43
  refine j_it_wp (Inv := fun r (q : Int32 × Int32 × j_M) => ∃ a f, a + r = n ∧ q.2.1 = nI a ∧ p_of I0 q.2.2 ∧ p_far n q.2.2 f ∧ p_good n w a0 f ∧ p_pass n w f0 q.1 f (fun x _ => x < a)) ?_ F n _ (by omega) ⟨0, f0, by omega, rfl, hI, hf, hg, Or.inl ⟨rfl, fun _ _ => rfl, fun x y _ _ hs => absurd hs (by omega)⟩⟩
  intro r q again hq hag
  obtain ⟨x2, x3, I⟩ := q
  obtain ⟨a, f, hr, e3, hI, hf, hg, hp⟩ := hq
  dsimp only at e3 hI hf hp ⊢
  subst e3
  unfold f_M_findFar_43b
  rw [hI 215 3 (by omega), h0]
  refine wpo_ite (fun h => ?_) (fun h => ?_)
  · have han : a = n := by
      have : n ≤ a := (nI_leI (by omega) (by omega)).mp h
      omega
    subst han
    refine hk x2 I f hI hf hg ?_
    rcases hp with ⟨p1, p2, p3⟩ | hp
    · exact Or.inl ⟨p1, p2, fun x y hx hy _ hne => p3 x y hx hy hx hne⟩
    · exact Or.inr hp
  · have han : a < n := by
      rcases Nat.lt_or_ge a n with h1 | h1
      · exact h1
      · exact absurd (nI_le h1 (by omega)) h
    exact p_findFar_54 hF hn h0 hw hwm han ha0 (fun x2 I1 f1 q1 q2 q3 q4 => hag (x2, nI (a + 1), I1) (r - 1) (by omega) ⟨a + 1, f1, by omega, rfl, q1, q2, q3, q4⟩) x2 I f hI hf hg hp
theorem p_findFar {I0 : j_M} {F n a0 : Nat} {w : Nat → Nat → Nat} (hF : 20000000 < F) (hn : n ≤ 16) (h0 : I0 215 3 = nI n) (hw : ∀ x y, w x y ≤ 60) (hwm : ∀ x y, x < 16 → y < 16 → I0 218 (16 * x + y) = nI (w x y)) (ha0 : a0 < n) : j_wpo (f_M_findFar F (nI a0) I0) (fun _ I => p_of I0 I ∧ ∃ f, p_far n I f ∧ p_good n w a0 f ∧ p_Pot n w f) := by
  unfold f_M_findFar f_M_findFar_2
  have h35 : ∀ (I : j_M) (f : Nat → Nat), p_of I0 I → p_far n I f → p_good n w a0 f → j_wpo (f_M_findFar_35 F 1 I) (fun _ I => p_of I0 I ∧ ∃ f, p_far n I f ∧ p_good n w a0 f ∧ p_Pot n w f) := by
    intro I f hI hf hg
    unfold f_M_findFar_35
    have hs : p_sum f n ≤ n * 1000000 := p_sum_le (fun p hp => (hg.2 p hp).1)
    have hs2 : n * 1000000 ≤ 16 * 1000000 := Nat.mul_le_mul_right _ hn
    refine j_it_wp (Inv := fun r (q : Int32 × j_M) => ∃ f, p_of I0 q.2 ∧ p_far n q.2 f ∧ p_good n w a0 f ∧ ((q.1 = 1 ∧ p_sum f n < r) ∨ (q.1 = 0 ∧ p_Pot n w f))) ?_ F (p_sum f n + 1) _ (by omega) ⟨f, hI, hf, hg, Or.inl ⟨rfl, by omega⟩⟩
    intro r q again hq hag
    obtain ⟨x2, I⟩ := q
    obtain ⟨f, hI, hf, hg, hx⟩ := hq
    dsimp only at hI hf hx ⊢
    unfold f_M_findFar_35b
    refine wpo_ite (fun h => ?_) (fun h => ?_)
    · rcases hx with hx | hx
      · rw [hx.1] at h; exact absurd h (by decide)
      · exact wpo_some ⟨hI, f, hf, hg, hx.2⟩
    · have hr : p_sum f n < r := by
        rcases hx with hx | hx
        · exact hx.2
        · exact absurd hx.1 h
      refine p_findFar_43 (by omega) hn h0 hw hwm ha0 f (fun x2 I1 f1 q1 q2 q3 q4 => ?_) I hI hf hg
      rcases q4 with ⟨p1, p2, p3⟩ | ⟨p1, p2⟩
      · have hpot : p_Pot n w f1 := fun x y hx hy hne => p3 x y hx hy trivial hne
        have hsm := p_sum_congr (f := f1) (g := f) p2
        exact hag (x2, I1) (r - 1) (by omega) ⟨f1, q1, q2, q3, Or.inr ⟨p1, hpot⟩⟩
      · exact hag (x2, I1) (r - 1) (by omega) ⟨f1, q1, q2, q3, Or.inl ⟨p1, by omega⟩⟩
  refine j_it_wp (Inv := fun r (q : Int32 × Int32 × j_M) => ∃ i, i + r = n ∧ q.1 = nI a0 ∧ q.2.1 = nI i ∧ p_of I0 q.2.2 ∧ ∀ p, p < i → q.2.2 221 p = nI (if p = a0 then 0 else 1000000)) ?_ F n _ (by omega) ⟨0, by omega, rfl, rfl, fun _ _ _ => rfl, fun p hp => absurd hp (by omega)⟩
  intro r q again hq hag
  obtain ⟨x1, x2, I⟩ := q
  obtain ⟨i, hr, e1, e2, hI, hp⟩ := hq
  dsimp only at e1 e2 hI hp ⊢
  subst e1
  subst e2
  unfold f_M_findFar_2b
  rw [hI 215 3 (by omega), h0]
  refine wpo_ite (fun h => ?_) (fun h => ?_)
  · have hin : i = n := by
      have : n ≤ i := (nI_leI (by omega) (by omega)).mp h
      omega
    subst hin
    refine h35 I (fun p => if p = a0 then 0 else 1000000) hI hp ⟨by simp, fun b hb => ?_⟩
    by_cases e : b = a0
    · subst e; simp; exact p_Rch.rf b
    · simp [e]
  · have hin : i < n := by
      rcases Nat.lt_or_ge i n with h1 | h1
      · exact h1
      · exact absurd (nI_le h1 (by omega)) h
    have key : ∀ v : Int32, v = nI (if i = a0 then 0 else 1000000) → j_wpo (f_M_findFar_26 F (fun x1 x2 I => again (x1, x2, I)) (nI a0) (nI i) (nI i) v I) (fun _ I => p_of I0 I ∧ ∃ f, p_far n I f ∧ p_good n w a0 f ∧ p_Pot n w f) := by
      intro v hv
      unfold f_M_findFar_26
      refine wpo_pos (j_ok_nI (by omega) (by omega)) (wpo_let (wpo_let ?_))
      rw [nI_1, j_ix_nI (by omega)]
      refine hag _ (r - 1) (by omega) ⟨i + 1, by omega, rfl, rfl, fun c k hc => ?_, fun p hp2 => ?_⟩
      · show j_wr I 221 i v c k = _
        rw [j_wr_at, if_neg (by omega)]; exact hI c k hc
      · show j_wr I 221 i v 221 p = _
        rw [j_wr_at]
        by_cases e : p = i
        · subst e; rw [if_pos ⟨rfl, rfl⟩]; exact hv
        · rw [if_neg (by omega)]; exact hp p (by omega)
    refine wpo_ite (fun e => key _ ?_) (fun e => key _ ?_)
    · have e2 : i = a0 := (nI_eq (by omega) (by omega)).mp e
      rw [if_pos e2]; rfl
    · have e2 : ¬ i = a0 := fun z => e (by rw [z])
      rw [if_neg e2]; rfl
