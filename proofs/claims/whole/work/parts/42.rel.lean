/-! two programs side by side: relational rules; the relation of the two halves -/
def j_wp2 {α β : Type} (o1 : Option (α × j_M)) (o2 : Option (β × j_M)) (Q : α → j_M → β → j_M → Prop) : Prop := ∃ v J w K, o1 = some (v, J) ∧ o2 = some (w, K) ∧ Q v J w K
theorem wp2_mk {α β : Type} {o1 : Option (α × j_M)} {o2 : Option (β × j_M)} {Q : α → j_M → β → j_M → Prop} {v : α} {J : j_M} {w : β} {K : j_M} (e1 : o1 = some (v, J)) (e2 : o2 = some (w, K)) (h : Q v J w K) : j_wp2 o1 o2 Q := ⟨v, J, w, K, e1, e2, h⟩
theorem wp2_bd {α β γ δ : Type} {o1 : Option (α × j_M)} {o2 : Option (β × j_M)} {k1 : α → j_M → Option (γ × j_M)} {k2 : β → j_M → Option (δ × j_M)} {Q : γ → j_M → δ → j_M → Prop} (h : j_wp2 o1 o2 (fun v J w K => j_wp2 (k1 v J) (k2 w K) Q)) : j_wp2 (j_bd o1 k1) (j_bd o2 k2) Q := by
  obtain ⟨v, J, w, K, e1, e2, h⟩ := h
  rw [e1, e2]
  exact h
theorem wp2_L {α γ δ : Type} {o1 : Option (α × j_M)} {o2 : Option (δ × j_M)} {k1 : α → j_M → Option (γ × j_M)} {Q : γ → j_M → δ → j_M → Prop} (h : j_wpo o1 (fun v J => j_wp2 (k1 v J) o2 Q)) : j_wp2 (j_bd o1 k1) o2 Q := by
  obtain ⟨v, J, e1, h⟩ := h
  rw [e1]
  exact h
theorem wp2_R {β γ δ : Type} {o1 : Option (γ × j_M)} {o2 : Option (β × j_M)} {k2 : β → j_M → Option (δ × j_M)} {Q : γ → j_M → δ → j_M → Prop} (h : j_wpo o2 (fun w K => j_wp2 o1 (k2 w K) Q)) : j_wp2 o1 (j_bd o2 k2) Q := by
  obtain ⟨v, J, e1, h⟩ := h
  rw [e1]
  exact h
theorem wp2_Lp {γ δ : Type} {c : Prop} [Decidable c] {A B : Option (γ × j_M)} {o2 : Option (δ × j_M)} {Q : γ → j_M → δ → j_M → Prop} (hc : c) (h : j_wp2 A o2 Q) : j_wp2 (if c then A else B) o2 Q := by rw [if_pos hc]; exact h
theorem wp2_Ln {γ δ : Type} {c : Prop} [Decidable c] {A B : Option (γ × j_M)} {o2 : Option (δ × j_M)} {Q : γ → j_M → δ → j_M → Prop} (hc : ¬ c) (h : j_wp2 B o2 Q) : j_wp2 (if c then A else B) o2 Q := by rw [if_neg hc]; exact h
theorem wp2_Rp {γ δ : Type} {c : Prop} [Decidable c] {A B : Option (δ × j_M)} {o1 : Option (γ × j_M)} {Q : γ → j_M → δ → j_M → Prop} (hc : c) (h : j_wp2 o1 A Q) : j_wp2 o1 (if c then A else B) Q := by rw [if_pos hc]; exact h
theorem wp2_Rn {γ δ : Type} {c : Prop} [Decidable c] {A B : Option (δ × j_M)} {o1 : Option (γ × j_M)} {Q : γ → j_M → δ → j_M → Prop} (hc : ¬ c) (h : j_wp2 o1 B Q) : j_wp2 o1 (if c then A else B) Q := by rw [if_neg hc]; exact h
theorem wp2_ite {γ δ : Type} {c d : Prop} [Decidable c] [Decidable d] {A B : Option (γ × j_M)} {A' B' : Option (δ × j_M)} {Q : γ → j_M → δ → j_M → Prop} (hcd : c ↔ d) (ht : c → j_wp2 A A' Q) (hf : ¬ c → j_wp2 B B' Q) : j_wp2 (if c then A else B) (if d then A' else B') Q := by
  by_cases h : c
  · rw [if_pos h, if_pos (hcd.mp h)]; exact ht h
  · rw [if_neg h, if_neg (fun z => h (hcd.mpr z))]; exact hf h
theorem wp2_Li {γ δ : Type} {c : Prop} [Decidable c] {A B : Option (γ × j_M)} {o2 : Option (δ × j_M)} {Q : γ → j_M → δ → j_M → Prop} (ht : c → j_wp2 A o2 Q) (hf : ¬ c → j_wp2 B o2 Q) : j_wp2 (if c then A else B) o2 Q := by
  by_cases h : c
  · rw [if_pos h]; exact ht h
  · rw [if_neg h]; exact hf h
theorem wp2_mono {α β : Type} {o1 : Option (α × j_M)} {o2 : Option (β × j_M)} {Q Q' : α → j_M → β → j_M → Prop} (h : j_wp2 o1 o2 Q) (hm : ∀ v J w K, Q v J w K → Q' v J w K) : j_wp2 o1 o2 Q' := by
  obtain ⟨v, J, w, K, e1, e2, h⟩ := h
  exact ⟨v, J, w, K, e1, e2, hm _ _ _ _ h⟩
theorem wp2_of {α β : Type} {o1 : Option (α × j_M)} {o2 : Option (β × j_M)} {P1 : α → j_M → Prop} {P2 : β → j_M → Prop} {Q : α → j_M → β → j_M → Prop} (h1 : j_wpo o1 P1) (h2 : j_wpo o2 P2) (hm : ∀ v J w K, P1 v J → P2 w K → Q v J w K) : j_wp2 o1 o2 Q := by
  obtain ⟨v, J, e1, h1⟩ := h1
  obtain ⟨w, K, e2, h2⟩ := h2
  exact ⟨v, J, w, K, e1, e2, hm _ _ _ _ h1 h2⟩
/-- two loops side by side -/
theorem j_it2 {σ τ α β : Type} {b1 : (σ → Option (α × j_M)) → σ → Option (α × j_M)} {b2 : (τ → Option (β × j_M)) → τ → Option (β × j_M)} {Q : α → j_M → β → j_M → Prop} (Inv : Nat → σ → τ → Prop) (hs : ∀ (k : Nat) (q : σ) (r : τ) (g1 : σ → Option (α × j_M)) (g2 : τ → Option (β × j_M)), Inv k q r → (∀ q' r' k', k' < k → Inv k' q' r' → j_wp2 (g1 q') (g2 r') Q) → j_wp2 (b1 g1 q) (b2 g2 r) Q) : ∀ (fuel k : Nat) (q : σ) (r : τ), k < fuel → Inv k q r → j_wp2 (j_it b1 fuel q) (j_it b2 fuel r) Q
  | 0, _, _, _, h, _ => absurd h (Nat.not_lt_zero _)
  | fuel + 1, k, q, r, h, hi => hs k q r (j_it b1 fuel) (j_it b2 fuel) hi (fun q' r' k' hk hi' => j_it2 Inv hs fuel k' q' r' (by omega) hi')
/-- two loops side by side, what they come to related at will -/
theorem j_it2g {σ τ α β : Type} {b1 : (σ → Option α) → σ → Option α} {b2 : (τ → Option β) → τ → Option β} (R : Option α → Option β → Prop) (Inv : Nat → σ → τ → Prop) (hs : ∀ (k : Nat) (q : σ) (r : τ) (g1 : σ → Option α) (g2 : τ → Option β), Inv k q r → (∀ q' r' k', k' < k → Inv k' q' r' → R (g1 q') (g2 r')) → R (b1 g1 q) (b2 g2 r)) : ∀ (fuel k : Nat) (q : σ) (r : τ), k < fuel → Inv k q r → R (j_it b1 fuel q) (j_it b2 fuel r)
  | 0, _, _, _, h, _ => absurd h (Nat.not_lt_zero _)
  | fuel + 1, k, q, r, h, hi => hs k q r (j_it b1 fuel) (j_it b2 fuel) hi (fun q' r' k' hk hi' => j_it2g R Inv hs fuel k' q' r' (by omega) hi')
/-- a loop that runs through given states -/
theorem j_it_run {σ α : Type} {body : (σ → Option α) → σ → Option α} {r : Option α} (st : Nat → σ) (m : Nat) (hstep : ∀ i, i < m → ∀ g, body g (st i) = g (st (i + 1))) (hend : ∀ g, body g (st m) = r) : ∀ (F i : Nat), i ≤ m → m - i < F → j_it body F (st i) = r
  | 0, _, _, h => absurd h (Nat.not_lt_zero _)
  | F + 1, i, hi, h => by
    rw [j_it_succ]
    by_cases e : i = m
    · subst e; exact hend _
    · rw [hstep i (by omega)]
      exact j_it_run st m hstep hend F (i + 1) (by omega) (by omega)
theorem j_bdS {α β : Type} (v : α) (I : j_M) (k : α → j_M → Option β) : j_bd (some (v, I)) k = k v I := rfl
theorem j_letE {α β : Type} (x : α) (f : α → β) : j_let x f = f x := rfl
/-- rows put in whole -/
def j_rw (I : j_M) (c : Nat) (g : Nat → Int32) : j_M := fun x => if x = c then g else I x
def vw (lo hi : Nat) (I : j_M) : Nat → Nat → Int32 := fun a b => if a < hi then I (lo + a) b else 0
theorem vw_wr {lo hi : Nat} {I : j_M} {c k : Nat} {v : Int32} (h : c < lo ∨ lo + hi ≤ c) : vw lo hi (j_wr I c k v) = vw lo hi I := by
  funext a b
  unfold vw
  by_cases e : a < hi
  · rw [if_pos e, if_pos e, j_wr_cell I k v (by omega)]
  · rw [if_neg e, if_neg e]
theorem vw_rw {lo hi : Nat} {I : j_M} {c : Nat} {g : Nat → Int32} (h : c < lo ∨ lo + hi ≤ c) : vw lo hi (j_rw I c g) = vw lo hi I := by
  funext a b
  unfold vw j_rw
  by_cases e : a < hi
  · rw [if_pos e, if_pos e, if_neg (by omega)]
  · rw [if_neg e, if_neg e]
theorem vw_at {lo hi : Nat} {I : j_M} {a : Nat} (h : a < hi) (b : Nat) : I (lo + a) b = vw lo hi I a b := by
  unfold vw; rw [if_pos h]
/-- writing in the view -/
def vup (V : Nat → Nat → Int32) (i k : Nat) (v : Int32) : Nat → Nat → Int32 := fun a b => if b = k ∧ a = i then v else V a b
theorem vw_in {lo hi : Nat} {I : j_M} {i k : Nat} {v : Int32} (h : i < hi) : vw lo hi (j_wr I (lo + i) k v) = vup (vw lo hi I) i k v := by
  funext a b
  unfold vw vup
  dsimp only
  by_cases e : a < hi
  · rw [if_pos e, if_pos e, j_wr_at]
    by_cases e2 : b = k ∧ a = i
    · rw [if_pos e2, if_pos (by omega)]
    · rw [if_neg e2, if_neg (by omega)]
  · rw [if_neg e, if_neg (by omega), if_neg e]
/-- a block of rows put in whole -/
def jvw (J : j_M) (lo hi : Nat) (V : Nat → Nat → Int32) : j_M := fun c => if lo ≤ c ∧ c < lo + hi then V (c - lo) else J c
theorem jvw_in {J : j_M} {lo hi i : Nat} {V : Nat → Nat → Int32} (h : i < hi) : jvw J lo hi V (lo + i) = V i := by
  unfold jvw; rw [if_pos (by omega)]; congr 1; omega
theorem jvw_out {J : j_M} {lo hi c : Nat} {V : Nat → Nat → Int32} (h : c < lo ∨ lo + hi ≤ c) : jvw J lo hi V c = J c := by
  unfold jvw; rw [if_neg (by omega)]
theorem jvw_wr1 {J : j_M} {lo hi i k : Nat} {v : Int32} (h : i < hi) : j_wr J (lo + i) k v = jvw J lo hi (vup (vw lo hi J) i k v) := by
  funext c y
  unfold jvw
  by_cases e : lo ≤ c ∧ c < lo + hi
  · rw [if_pos e, j_wr_at]
    unfold vup vw
    by_cases e2 : c = lo + i ∧ y = k
    · rw [if_pos e2, if_pos (by omega)]
    · rw [if_neg e2, if_neg (by omega), if_pos (by omega), show lo + (c - lo) = c by omega]
  · rw [if_neg e, j_wr_at, if_neg (by omega)]
theorem jvw_wr2 {J : j_M} {lo hi i k : Nat} {v : Int32} {V : Nat → Nat → Int32} (h : i < hi) : j_wr (jvw J lo hi V) (lo + i) k v = jvw J lo hi (vup V i k v) := by
  funext c y
  rw [j_wr_at]
  unfold jvw vup
  by_cases e : lo ≤ c ∧ c < lo + hi
  · rw [if_pos e, if_pos e]
    by_cases e2 : c = lo + i ∧ y = k
    · rw [if_pos e2, if_pos (by omega)]
    · rw [if_neg e2, if_neg (by omega)]
  · rw [if_neg e, if_neg (by omega), if_neg e]
theorem jvw_wr3 {J : j_M} {lo hi c k : Nat} {v : Int32} {V : Nat → Nat → Int32} (h : c < lo ∨ lo + hi ≤ c) : j_wr (jvw J lo hi V) c k v = jvw (j_wr J c k v) lo hi V := by
  funext x y
  rw [j_wr_at]
  unfold jvw
  by_cases e : lo ≤ x ∧ x < lo + hi
  · rw [if_pos e, if_pos e, if_neg (by omega)]
  · rw [if_neg e, if_neg e]; rfl
def v0 (hi : Nat) (V : Nat → Nat → Int32) : Prop := ∀ a b, hi ≤ a → V a b = 0
theorem v0_vw (lo hi : Nat) (J : j_M) : v0 hi (vw lo hi J) := fun a b h => by unfold vw; rw [if_neg (by omega)]
theorem v0_up {hi i k : Nat} {v : Int32} {V : Nat → Nat → Int32} (h : v0 hi V) (hi2 : i < hi) : v0 hi (vup V i k v) := fun a b h2 => by
  unfold vup; rw [if_neg (by omega)]; exact h a b h2
theorem vw_jvw {J : j_M} {lo hi : Nat} {V : Nat → Nat → Int32} (h : v0 hi V) : vw lo hi (jvw J lo hi V) = V := by
  funext a b
  unfold vw
  by_cases e : a < hi
  · rw [if_pos e, jvw_in e]
  · rw [if_neg e, h a b (by omega)]
theorem vw_jvo {J : j_M} {lo hi l2 h2 : Nat} {V : Nat → Nat → Int32} (h : l2 + h2 ≤ lo ∨ lo + hi ≤ l2) : vw lo hi (jvw J l2 h2 V) = vw lo hi J := by
  funext a b
  unfold vw
  by_cases e : a < hi
  · rw [if_pos e, if_pos e, jvw_out (by omega)]
  · rw [if_neg e, if_neg e]
theorem rw_self (J : j_M) (c : Nat) : j_rw J c (J c) = J := by
  funext x; unfold j_rw
  by_cases e : x = c
  · rw [if_pos e, e]
  · rw [if_neg e]
theorem rw_wr {J : j_M} {c k : Nat} {v : Int32} {g : Nat → Int32} : j_wr (j_rw J c g) c k v = j_rw J c (upd g k v) := by
  funext x y
  rw [j_wr_at]
  unfold j_rw
  by_cases e : x = c
  · subst e
    rw [if_pos rfl, if_pos rfl]
    unfold upd
    by_cases e2 : y = k <;> simp [e2]
  · rw [if_neg e, if_neg e, if_neg (fun z => e z.1)]
theorem wr_rw {J : j_M} {c k : Nat} {v : Int32} : j_wr J c k v = j_rw J c (upd (J c) k v) := by
  have := rw_wr (J := J) (c := c) (k := k) (v := v) (g := J c)
  rw [rw_self] at this
  exact this
theorem rw_rw {J : j_M} {c : Nat} {g h : Nat → Int32} : j_rw (j_rw J c g) c h = j_rw J c h := by
  funext x; unfold j_rw
  by_cases e : x = c
  · rw [if_pos e, if_pos e]
  · rw [if_neg e, if_neg e, if_neg e]
theorem wr_ne {J : j_M} {c d k : Nat} {v : Int32} {g : Nat → Int32} (h : c ≠ d) : j_wr (j_rw J d g) c k v = j_rw (j_wr J c k v) d g := by
  funext x y
  rw [j_wr_at]
  unfold j_rw
  by_cases e : x = d
  · rw [if_pos e, if_pos e, if_neg (by omega)]
  · rw [if_neg e, if_neg e]; rfl
theorem rw_cm {J : j_M} {c d : Nat} {f g : Nat → Int32} (h : c ≠ d) : j_rw (j_rw J d g) c f = j_rw (j_rw J c f) d g := by
  funext x
  unfold j_rw
  by_cases e : x = d
  · rw [if_pos e, if_pos e, if_neg (by omega)]
  · by_cases e2 : x = c
    · rw [if_pos e2, if_pos e2, if_neg e]
    · rw [if_neg e2, if_neg e2]
theorem wr_self (J : j_M) (c k : Nat) : j_wr J c k (J c k) = J := by
  funext x y
  rw [j_wr_at]
  by_cases e : x = c ∧ y = k
  · rw [if_pos e, e.1, e.2]
  · rw [if_neg e]
theorem rw_at {J : j_M} {c : Nat} {g : Nat → Int32} : j_rw J c g c = g := by unfold j_rw; rw [if_pos rfl]
def frJ (J0 J : j_M) : Prop := ∀ c, 215 ≤ c → J c = J0 c
def frK (K0 K : j_M) : Prop := ∀ c, c < 215 → K c = K0 c
theorem frJ_rf (J : j_M) : frJ J J := fun _ _ => rfl
theorem frK_rf (J : j_M) : frK J J := fun _ _ => rfl
theorem frJ_wr {J0 J : j_M} {c k : Nat} {v : Int32} (hc : c < 215) (h : frJ J0 J) : frJ J0 (j_wr J c k v) := fun x hx => by rw [j_wr_cell J k v (by omega)]; exact h x hx
theorem frK_wr {J0 J : j_M} {c k : Nat} {v : Int32} (hc : 215 ≤ c) (h : frK J0 J) : frK J0 (j_wr J c k v) := fun x hx => by rw [j_wr_cell J k v (by omega)]; exact h x hx
theorem frJ_rw {J0 J : j_M} {c : Nat} {g : Nat → Int32} (hc : c < 215) (h : frJ J0 J) : frJ J0 (j_rw J c g) := fun x hx => by
  unfold j_rw; rw [if_neg (by omega)]; exact h x hx
theorem frK_rw {J0 J : j_M} {c : Nat} {g : Nat → Int32} (hc : 215 ≤ c) (h : frK J0 J) : frK J0 (j_rw J c g) := fun x hx => by
  unfold j_rw; rw [if_neg (by omega)]; exact h x hx
theorem frJ_vw {J0 J : j_M} {lo hi : Nat} {V : Nat → Nat → Int32} (hc : lo + hi ≤ 215) (h : frJ J0 J) : frJ J0 (jvw J lo hi V) := fun x hx => by
  rw [jvw_out (by omega)]; exact h x hx
theorem frJ_tr {A B C : j_M} (h1 : frJ A B) (h2 : frJ B C) : frJ A C := fun x hx => (h2 x hx).trans (h1 x hx)
theorem frK_tr {A B C : j_M} (h1 : frK A B) (h2 : frK B C) : frK A C := fun x hx => (h2 x hx).trans (h1 x hx)
/-! the parts of the relation -/
def R_wk (n : Nat) (W Y : Nat → Nat → Int32) (k218 : Nat → Int32) : Prop := ∃ w D : Nat → Nat → Nat, (∀ a b, w a b ≤ 60) ∧ (∀ a b, n ≤ a ∨ n ≤ b → w a b = 0) ∧ (∀ a b, a < 16 → b < 16 → W a b = nI (w a b) ∧ k218 (16 * a + b) = nI (w a b) ∧ Y a b = nI (D a b)) ∧ p_Dist n w D ∧ ∀ a b, (n ≤ a ∨ n ≤ b) → D a b = p_dir0 w a b
def R_01 (f : Nat → Int32) : Prop := ∀ t, f t = 0 ∨ f t = 1
def R_rn (r : Nat) (wet from_ to : Nat → Int32) : Prop := ∀ m, m < 480 → (wet m = 0 ∨ wet m = 1) ∧ (wet m = 1 ↔ ∃ k, k < r ∧ from_ k ≤ nI m ∧ nI m < to k)
def R_nu (P : Nat → Nat → Int32) : Prop := ∀ i, i < 100 → P i 0 = nI i
def R_pt (np : Nat) (P : Nat → Nat → Int32) (h1 h2 h3 h4 h5 h6 h7 h8 h9 h10 : Nat → Int32) : Prop := ∀ i, i < np → P i 1 = h1 i ∧ P i 2 = h2 i ∧ P i 3 = h3 i ∧ P i 4 = h4 i ∧ P i 5 = h5 i ∧ P i 6 = h6 i ∧ P i 7 = h7 i ∧ P i 8 = h8 i ∧ P i 9 = h9 i ∧ P i 10 = h10 i
def R_rg (n np mi nb : Nat) (P : Nat → Nat → Int32) : Prop := ∀ i, i < np → (∃ c, c ≤ mi ∧ P i 10 = nI c) ∧ (P i 3 = 0 ∨ P i 3 = 1 ∨ P i 3 = 2) ∧ (P i 3 ≠ 2 → ∃ q, q < n ∧ P i 4 = nI q) ∧ (P i 6 = -1 ∨ ∃ b, b < nb ∧ P i 6 = nI b) ∧ (P i 3 = 2 → P i 6 = -1)
def R_du (np mi : Nat) (P : Nat → Nat → Int32) : Prop := ∀ i, i < np → P i 3 = 1 → ∃ d, mi < d ∧ d < 2000000 ∧ P i 5 = nI d
def R_bx (np nb : Nat) (P : Nat → Nat → Int32) (g : Nat → Int32) : Prop := ∀ b, b < nb → (g b = -1 ∧ ∀ i, i < np → P i 6 ≠ nI b) ∨ ∃ i, i < np ∧ g b = nI i ∧ P i 6 = nI b ∧ ∀ j, j < np → P j 6 = nI b → j = i
def R_or (np no : Nat) (o : Nat → Int32) : Prop := ∀ k, k < no → ∃ i, i < np ∧ o k = nI i
def p_cov (fr un : Nat → Int32) (t m : Nat) : Prop := fr t ≤ nI m ∧ nI m < un t
def p_pic (P : Nat → Nat → Int32) (wa : Nat → Int32) (p m : Nat) : Int32 := if nI m < P p 10 then 0 else wa (100 * m + p)
def R_sa (np ns sh : Nat) (P : Nat → Nat → Int32) (who whe fr un wa : Nat → Int32) : Prop := ∀ p, p < np → ∀ m, m < sh → (p_pic P wa p m = 0 ∧ ∀ t, t < ns → who t = nI p → ¬ p_cov fr un t m) ∨ ∃ q t, q < 16 ∧ p_pic P wa p m = nI (q + 1) ∧ t < ns ∧ who t = nI p ∧ p_cov fr un t m ∧ whe t = nI q ∧ ∀ t', t' < ns → who t' = nI p → p_cov fr un t' m → t' = t
def R_sb (np ns sh : Nat) (P : Nat → Nat → Int32) (who fr un : Nat → Int32) : Prop := ∀ t, t < ns → ∃ p f, p < np ∧ who t = nI p ∧ f ≤ sh ∧ fr t = nI f ∧ ((∃ u, u ≤ sh ∧ un t = nI u) ∨ (un t = 480 ∧ P p 3 = 0 ∧ P p 11 = nI t))
def R_sc (np ns : Nat) (P : Nat → Nat → Int32) (who whe un : Nat → Int32) : Prop := ∀ p, p < np → P p 3 = 0 → ∃ t, t < ns ∧ P p 11 = nI t ∧ who t = nI p ∧ whe t = P p 4 ∧ un t = 480
def p_phi (P : Nat → Nat → Int32) (cov : Nat → Int32) (p : Nat) : Nat := if P p 3 = 2 then 0 else (if P p 3 = 1 then 1 else 0) + (if cov (j_ix (P p 4)) = 0 then 1 else 0)
def R_sn (np ns K : Nat) (P : Nat → Nat → Int32) (cov : Nat → Int32) : Prop := ns + p_sum (p_phi P cov) np ≤ 2 * K
def R_wz (np mi : Nat) (wa : Nat → Int32) : Prop := ∀ p, np ≤ p → p < 100 → mi ≠ 0 → wa (100 * mi + p) = 0
def R_th (n mi nt : Nat) (tm tp : Nat → Int32) : Prop := ∀ k, k < nt → ∃ m q, m ≤ mi ∧ tm k = nI m ∧ q < n ∧ tp k = nI q
def l_Pot (nf : Nat) (A B L : Nat → Nat) (f : Nat → Nat) : Prop := ∀ k, k < nf → f (B k) ≤ f (A k) + L k ∧ f (A k) ≤ f (B k) + L k
def l_Rch (nf : Nat) (A B L : Nat → Nat) (a b d : Nat) : Prop := ∀ f, l_Pot nf A B L f → f b ≤ f a + d
def l_Dist (nf : Nat) (A B L : Nat → Nat) (E : Nat → Nat → Nat) : Prop := (∀ a, a < 40 → E a a = 0) ∧ (∀ a b, a < 40 → b < 40 → E a b ≤ 10000000 ∧ (E a b = 10000000 ∨ l_Rch nf A B L a b (E a b))) ∧ ∀ a, a < 40 → l_Pot nf A B L (E a)
def R_la (nl nf : Nat) (V : Nat → Nat → Int32) (fa fb fl : Nat → Int32) : Prop := ∃ (A B L : Nat → Nat) (E : Nat → Nat → Nat), (∀ k, k < nf → A k < nl ∧ B k < nl ∧ 1 ≤ L k ∧ L k ≤ 999 ∧ fa k = nI (A k) ∧ fb k = nI (B k) ∧ fl k = nI (L k)) ∧ (∀ a b, a < 40 → b < 40 → V a b = nI (E a b)) ∧ l_Dist nf A B L E
def R_li (nl : Nat) (sec lit : Nat → Int32) : Prop := ∀ l, l < nl → (sec l = -1 ∧ lit l = 1000000) ∨ ∃ d, d < 100000 ∧ lit l = nI d ∧ sec l = nI ((d + 9) / 10)
def R_lt (mi : Nat) (at_ has in_ : Int32) : Prop := (has = 0 ∧ at_ = -1) ∨ (has = 1 ∧ ∃ t, t ≤ mi ∧ at_ = nI t ∧ in_ = nI t)
def R_nm (J K : j_M) : Prop := J 209 0 = K 253 112 ∧ J 209 1 = K 253 109 ∧ J 209 2 = K 253 114 ∧ J 209 3 = K 253 110 ∧ J 209 4 = K 253 103 ∧ J 209 5 = K 253 115 ∧ J 209 6 = K 253 99 ∧ J 209 7 = K 253 116
def R_p1 (F o : Nat) (j203 j204 k249 k250 k251 : Nat → Int32) : Prop := ∀ J K : j_M, (∀ k, k < 120 → J 203 (120 * o + k) = j203 (120 * o + k)) → J 204 o = j204 o → K 249 o = k249 o → (∀ k, k < 130 → K 250 (130 * o + k) = k250 (130 * o + k)) → (∀ k, k < 130 → K 251 (130 * o + k) = k251 (130 * o + k)) → R_nm J K → j_wp2 (f_Re_valueOf F (nI (120 * o)) (j204 o) J) (f_M_says F (nI o) K) (fun v J' w K' => v = w ∧ (∃ g, J' = j_rw J 208 g) ∧ ∃ g, K' = j_rw K 254 g)
def R_pr (F npr : Nat) (j203 j204 k249 k250 k251 : Nat → Int32) : Prop := ∀ o, o < npr → R_p1 F o j203 j204 k249 k250 k251
def R_by (b : Nat → Int32) : Prop := ∀ i, (b i).toInt8.toInt32 = b i
def R_rm (n : Nat) (r : Nat → Int32) : Prop := ∀ q, q < n → ∃ k, k ≤ 999 ∧ r q = nI k
def R_hd (np : Nat) (P : Nat → Nat → Int32) : Prop := ∀ i, i < np → ∃ k, k ≤ 20 ∧ P i 1 = nI k
def R_lr (n : Nat) (r : Nat → Int32) : Prop := ∀ q, q < n → ∃ k, k ≤ 480 ∧ r q = nI k
def R_tp (npr tp : Nat) (b t : Nat → Int32) : Prop := ∀ k, k < tp → b (120 * npr + k) = t k
def RR (F : Nat) (s : Nat → Nat) (J K : j_M) : Prop :=
  J 1 0 = nI (s 0) ∧
  K 215 3 = nI (s 0) ∧
  s 0 ≤ 16 ∧
  J 41 0 = nI (s 1) ∧
  K 215 12 = nI (s 1) ∧
  s 1 ≤ 100 ∧
  J 0 11 = nI (s 2) ∧
  K 215 2 = nI (s 2) ∧
  s 2 < 480 ∧
  J 0 10 = nI (s 3) ∧
  K 215 1 = nI (s 3) ∧
  s 3 < 200 ∧
  J 211 0 = nI (s 3) ∧
  J 38 0 = nI (s 4) ∧
  K 215 7 = nI (s 4) ∧
  s 4 ≤ 20 ∧
  J 150 0 = nI (s 5) ∧
  K 215 28 = nI (s 5) ∧
  s 5 ≤ 40 ∧
  J 150 1 = nI (s 6) ∧
  K 215 30 = nI (s 6) ∧
  s 6 ≤ 80 ∧
  J 194 0 = nI (s 7) ∧
  K 215 40 = nI (s 7) ∧
  s 7 ≤ 20 ∧
  J 198 4 = nI (s 8) ∧
  K 215 46 = nI (s 8) ∧
  s 8 ≤ 60 ∧
  J 202 0 = nI (s 9) ∧
  K 215 52 = nI (s 9) ∧
  s 9 ≤ 30 ∧
  J 202 1 = nI (s 10) ∧
  K 215 51 = nI (s 10) ∧
  s 10 ≤ 120 ∧
  J 143 6 = nI (s 11) ∧
  K 215 68 = nI (s 11) ∧
  s 11 ≤ 20 ∧
  J 143 1 = nI (s 12) ∧
  J 143 0 = nI (s 15) ∧
  s 15 ≤ 480 ∧
  J 198 2 = nI (s 14) ∧
  K 215 45 = nI (s 14) ∧
  s 14 ≤ 9 ∧
  J 0 12 = K 215 24 ∧
  J 0 13 = K 215 25 ∧
  J 0 14 = K 215 26 ∧
  J 198 0 = K 215 43 ∧
  J 198 1 = K 215 44 ∧
  J 198 3 = K 215 27 ∧
  J 2 = K 216 ∧
  J 3 = K 217 ∧
  J 40 = K 222 ∧
  J 151 = K 234 ∧
  J 195 = K 240 ∧
  J 196 = K 241 ∧
  J 199 = K 242 ∧
  J 200 = K 243 ∧
  J 201 = K 244 ∧
  J 205 = K 246 ∧
  J 206 = K 248 ∧
  J 207 = K 247 ∧
  J 212 = K 255 ∧
  J 213 = K 256 ∧
  J 214 = K 257 ∧
  J 148 = K 258 ∧
  J 149 = K 259 ∧
  R_wk (s 0) (vw 5 16 J) (vw 22 16 J) (K 218) ∧
  R_01 (J 40) ∧
  R_rn (s 4) (J 39) (K 219) (K 220) ∧
  R_nu (vw 43 100 J) ∧
  R_pt (s 1) (vw 43 100 J) (K 223) (K 224) (K 225) (K 226) (K 227) (K 228) (K 229) (K 230) (K 231) (K 232) ∧
  R_rg (s 0) (s 1) (s 2) (s 7) (vw 43 100 J) ∧
  R_bx (s 1) (s 7) (vw 43 100 J) (J 197) ∧
  R_or (s 1) (s 8) (J 199) ∧
  R_sa (s 1) (s 12) (s 15) (vw 43 100 J) (J 144) (J 145) (J 146) (J 147) (K 233) ∧
  R_sb (s 1) (s 12) (s 15) (vw 43 100 J) (J 144) (J 146) (J 147) ∧
  R_sc (s 1) (s 12) (vw 43 100 J) (J 144) (J 145) (J 147) ∧
  R_sn (s 1) (s 12) (s 13) (vw 43 100 J) (J 3) ∧
  R_wz (s 1) (s 2) (K 233) ∧
  R_th (s 0) (s 2) (s 11) (J 148) (J 149) ∧
  R_la (s 5) (s 6) (vw 154 40 J) (K 235) (K 236) (K 237) ∧
  R_li (s 5) (J 152) (K 239) ∧
  R_lt (s 2) (J 150 2) (K 215 36) (K 215 37) ∧
  R_pr F (s 9) (J 203) (J 204) (K 249) (K 250) (K 251) ∧
  R_by (J 203) ∧
  R_tp (s 9) (s 10) (J 203) (K 245) ∧
  R_rm (s 0) (J 2) ∧
  R_hd (s 1) (vw 43 100 J) ∧
  R_lr (s 3) (J 213) ∧
  s 13 ≤ 512

theorem RR_a0 {F : Nat} {s : Nat → Nat} {J K : j_M} (hr : RR F s J K) : J 1 0 = nI (s 0) := by
  obtain ⟨a0, b0, c0, a1, b1, c1, a2, b2, c2, a3, b3, c3, d3, a4, b4, c4, a5, b5, c5, a6, b6, c6, a7, b7, c7, a8, b8, c8, a9, b9, c9, a10, b10, c10, a11, b11, c11, a12, a15, c15, a14, b14, c14, e1, e2, e3, e4, e5, e6, r1, r2, r3, r4, r5, r6, r7, r8, r9, r10, r11, r12, r13, r14, r15, r16, r17, hwk, hso, hrn, hnu, hpt, hrg, hbx, hor, hsa, hsb, hsc, hsn, hwz, hth, hla, hli, hlt, hpr, hby, htp, hrm, hhd, hlr, hK⟩ := hr
  exact a0
theorem RR_b0 {F : Nat} {s : Nat → Nat} {J K : j_M} (hr : RR F s J K) : K 215 3 = nI (s 0) := by
  obtain ⟨a0, b0, c0, a1, b1, c1, a2, b2, c2, a3, b3, c3, d3, a4, b4, c4, a5, b5, c5, a6, b6, c6, a7, b7, c7, a8, b8, c8, a9, b9, c9, a10, b10, c10, a11, b11, c11, a12, a15, c15, a14, b14, c14, e1, e2, e3, e4, e5, e6, r1, r2, r3, r4, r5, r6, r7, r8, r9, r10, r11, r12, r13, r14, r15, r16, r17, hwk, hso, hrn, hnu, hpt, hrg, hbx, hor, hsa, hsb, hsc, hsn, hwz, hth, hla, hli, hlt, hpr, hby, htp, hrm, hhd, hlr, hK⟩ := hr
  exact b0
theorem RR_c0 {F : Nat} {s : Nat → Nat} {J K : j_M} (hr : RR F s J K) : s 0 ≤ 16 := by
  obtain ⟨a0, b0, c0, a1, b1, c1, a2, b2, c2, a3, b3, c3, d3, a4, b4, c4, a5, b5, c5, a6, b6, c6, a7, b7, c7, a8, b8, c8, a9, b9, c9, a10, b10, c10, a11, b11, c11, a12, a15, c15, a14, b14, c14, e1, e2, e3, e4, e5, e6, r1, r2, r3, r4, r5, r6, r7, r8, r9, r10, r11, r12, r13, r14, r15, r16, r17, hwk, hso, hrn, hnu, hpt, hrg, hbx, hor, hsa, hsb, hsc, hsn, hwz, hth, hla, hli, hlt, hpr, hby, htp, hrm, hhd, hlr, hK⟩ := hr
  exact c0
theorem RR_a1 {F : Nat} {s : Nat → Nat} {J K : j_M} (hr : RR F s J K) : J 41 0 = nI (s 1) := by
  obtain ⟨a0, b0, c0, a1, b1, c1, a2, b2, c2, a3, b3, c3, d3, a4, b4, c4, a5, b5, c5, a6, b6, c6, a7, b7, c7, a8, b8, c8, a9, b9, c9, a10, b10, c10, a11, b11, c11, a12, a15, c15, a14, b14, c14, e1, e2, e3, e4, e5, e6, r1, r2, r3, r4, r5, r6, r7, r8, r9, r10, r11, r12, r13, r14, r15, r16, r17, hwk, hso, hrn, hnu, hpt, hrg, hbx, hor, hsa, hsb, hsc, hsn, hwz, hth, hla, hli, hlt, hpr, hby, htp, hrm, hhd, hlr, hK⟩ := hr
  exact a1
theorem RR_b1 {F : Nat} {s : Nat → Nat} {J K : j_M} (hr : RR F s J K) : K 215 12 = nI (s 1) := by
  obtain ⟨a0, b0, c0, a1, b1, c1, a2, b2, c2, a3, b3, c3, d3, a4, b4, c4, a5, b5, c5, a6, b6, c6, a7, b7, c7, a8, b8, c8, a9, b9, c9, a10, b10, c10, a11, b11, c11, a12, a15, c15, a14, b14, c14, e1, e2, e3, e4, e5, e6, r1, r2, r3, r4, r5, r6, r7, r8, r9, r10, r11, r12, r13, r14, r15, r16, r17, hwk, hso, hrn, hnu, hpt, hrg, hbx, hor, hsa, hsb, hsc, hsn, hwz, hth, hla, hli, hlt, hpr, hby, htp, hrm, hhd, hlr, hK⟩ := hr
  exact b1
theorem RR_c1 {F : Nat} {s : Nat → Nat} {J K : j_M} (hr : RR F s J K) : s 1 ≤ 100 := by
  obtain ⟨a0, b0, c0, a1, b1, c1, a2, b2, c2, a3, b3, c3, d3, a4, b4, c4, a5, b5, c5, a6, b6, c6, a7, b7, c7, a8, b8, c8, a9, b9, c9, a10, b10, c10, a11, b11, c11, a12, a15, c15, a14, b14, c14, e1, e2, e3, e4, e5, e6, r1, r2, r3, r4, r5, r6, r7, r8, r9, r10, r11, r12, r13, r14, r15, r16, r17, hwk, hso, hrn, hnu, hpt, hrg, hbx, hor, hsa, hsb, hsc, hsn, hwz, hth, hla, hli, hlt, hpr, hby, htp, hrm, hhd, hlr, hK⟩ := hr
  exact c1
theorem RR_a2 {F : Nat} {s : Nat → Nat} {J K : j_M} (hr : RR F s J K) : J 0 11 = nI (s 2) := by
  obtain ⟨a0, b0, c0, a1, b1, c1, a2, b2, c2, a3, b3, c3, d3, a4, b4, c4, a5, b5, c5, a6, b6, c6, a7, b7, c7, a8, b8, c8, a9, b9, c9, a10, b10, c10, a11, b11, c11, a12, a15, c15, a14, b14, c14, e1, e2, e3, e4, e5, e6, r1, r2, r3, r4, r5, r6, r7, r8, r9, r10, r11, r12, r13, r14, r15, r16, r17, hwk, hso, hrn, hnu, hpt, hrg, hbx, hor, hsa, hsb, hsc, hsn, hwz, hth, hla, hli, hlt, hpr, hby, htp, hrm, hhd, hlr, hK⟩ := hr
  exact a2
theorem RR_b2 {F : Nat} {s : Nat → Nat} {J K : j_M} (hr : RR F s J K) : K 215 2 = nI (s 2) := by
  obtain ⟨a0, b0, c0, a1, b1, c1, a2, b2, c2, a3, b3, c3, d3, a4, b4, c4, a5, b5, c5, a6, b6, c6, a7, b7, c7, a8, b8, c8, a9, b9, c9, a10, b10, c10, a11, b11, c11, a12, a15, c15, a14, b14, c14, e1, e2, e3, e4, e5, e6, r1, r2, r3, r4, r5, r6, r7, r8, r9, r10, r11, r12, r13, r14, r15, r16, r17, hwk, hso, hrn, hnu, hpt, hrg, hbx, hor, hsa, hsb, hsc, hsn, hwz, hth, hla, hli, hlt, hpr, hby, htp, hrm, hhd, hlr, hK⟩ := hr
  exact b2
theorem RR_c2 {F : Nat} {s : Nat → Nat} {J K : j_M} (hr : RR F s J K) : s 2 < 480 := by
  obtain ⟨a0, b0, c0, a1, b1, c1, a2, b2, c2, a3, b3, c3, d3, a4, b4, c4, a5, b5, c5, a6, b6, c6, a7, b7, c7, a8, b8, c8, a9, b9, c9, a10, b10, c10, a11, b11, c11, a12, a15, c15, a14, b14, c14, e1, e2, e3, e4, e5, e6, r1, r2, r3, r4, r5, r6, r7, r8, r9, r10, r11, r12, r13, r14, r15, r16, r17, hwk, hso, hrn, hnu, hpt, hrg, hbx, hor, hsa, hsb, hsc, hsn, hwz, hth, hla, hli, hlt, hpr, hby, htp, hrm, hhd, hlr, hK⟩ := hr
  exact c2
theorem RR_a3 {F : Nat} {s : Nat → Nat} {J K : j_M} (hr : RR F s J K) : J 0 10 = nI (s 3) := by
  obtain ⟨a0, b0, c0, a1, b1, c1, a2, b2, c2, a3, b3, c3, d3, a4, b4, c4, a5, b5, c5, a6, b6, c6, a7, b7, c7, a8, b8, c8, a9, b9, c9, a10, b10, c10, a11, b11, c11, a12, a15, c15, a14, b14, c14, e1, e2, e3, e4, e5, e6, r1, r2, r3, r4, r5, r6, r7, r8, r9, r10, r11, r12, r13, r14, r15, r16, r17, hwk, hso, hrn, hnu, hpt, hrg, hbx, hor, hsa, hsb, hsc, hsn, hwz, hth, hla, hli, hlt, hpr, hby, htp, hrm, hhd, hlr, hK⟩ := hr
  exact a3
theorem RR_b3 {F : Nat} {s : Nat → Nat} {J K : j_M} (hr : RR F s J K) : K 215 1 = nI (s 3) := by
  obtain ⟨a0, b0, c0, a1, b1, c1, a2, b2, c2, a3, b3, c3, d3, a4, b4, c4, a5, b5, c5, a6, b6, c6, a7, b7, c7, a8, b8, c8, a9, b9, c9, a10, b10, c10, a11, b11, c11, a12, a15, c15, a14, b14, c14, e1, e2, e3, e4, e5, e6, r1, r2, r3, r4, r5, r6, r7, r8, r9, r10, r11, r12, r13, r14, r15, r16, r17, hwk, hso, hrn, hnu, hpt, hrg, hbx, hor, hsa, hsb, hsc, hsn, hwz, hth, hla, hli, hlt, hpr, hby, htp, hrm, hhd, hlr, hK⟩ := hr
  exact b3
theorem RR_c3 {F : Nat} {s : Nat → Nat} {J K : j_M} (hr : RR F s J K) : s 3 < 200 := by
  obtain ⟨a0, b0, c0, a1, b1, c1, a2, b2, c2, a3, b3, c3, d3, a4, b4, c4, a5, b5, c5, a6, b6, c6, a7, b7, c7, a8, b8, c8, a9, b9, c9, a10, b10, c10, a11, b11, c11, a12, a15, c15, a14, b14, c14, e1, e2, e3, e4, e5, e6, r1, r2, r3, r4, r5, r6, r7, r8, r9, r10, r11, r12, r13, r14, r15, r16, r17, hwk, hso, hrn, hnu, hpt, hrg, hbx, hor, hsa, hsb, hsc, hsn, hwz, hth, hla, hli, hlt, hpr, hby, htp, hrm, hhd, hlr, hK⟩ := hr
  exact c3
theorem RR_d3 {F : Nat} {s : Nat → Nat} {J K : j_M} (hr : RR F s J K) : J 211 0 = nI (s 3) := by
  obtain ⟨a0, b0, c0, a1, b1, c1, a2, b2, c2, a3, b3, c3, d3, a4, b4, c4, a5, b5, c5, a6, b6, c6, a7, b7, c7, a8, b8, c8, a9, b9, c9, a10, b10, c10, a11, b11, c11, a12, a15, c15, a14, b14, c14, e1, e2, e3, e4, e5, e6, r1, r2, r3, r4, r5, r6, r7, r8, r9, r10, r11, r12, r13, r14, r15, r16, r17, hwk, hso, hrn, hnu, hpt, hrg, hbx, hor, hsa, hsb, hsc, hsn, hwz, hth, hla, hli, hlt, hpr, hby, htp, hrm, hhd, hlr, hK⟩ := hr
  exact d3
theorem RR_a4 {F : Nat} {s : Nat → Nat} {J K : j_M} (hr : RR F s J K) : J 38 0 = nI (s 4) := by
  obtain ⟨a0, b0, c0, a1, b1, c1, a2, b2, c2, a3, b3, c3, d3, a4, b4, c4, a5, b5, c5, a6, b6, c6, a7, b7, c7, a8, b8, c8, a9, b9, c9, a10, b10, c10, a11, b11, c11, a12, a15, c15, a14, b14, c14, e1, e2, e3, e4, e5, e6, r1, r2, r3, r4, r5, r6, r7, r8, r9, r10, r11, r12, r13, r14, r15, r16, r17, hwk, hso, hrn, hnu, hpt, hrg, hbx, hor, hsa, hsb, hsc, hsn, hwz, hth, hla, hli, hlt, hpr, hby, htp, hrm, hhd, hlr, hK⟩ := hr
  exact a4
theorem RR_b4 {F : Nat} {s : Nat → Nat} {J K : j_M} (hr : RR F s J K) : K 215 7 = nI (s 4) := by
  obtain ⟨a0, b0, c0, a1, b1, c1, a2, b2, c2, a3, b3, c3, d3, a4, b4, c4, a5, b5, c5, a6, b6, c6, a7, b7, c7, a8, b8, c8, a9, b9, c9, a10, b10, c10, a11, b11, c11, a12, a15, c15, a14, b14, c14, e1, e2, e3, e4, e5, e6, r1, r2, r3, r4, r5, r6, r7, r8, r9, r10, r11, r12, r13, r14, r15, r16, r17, hwk, hso, hrn, hnu, hpt, hrg, hbx, hor, hsa, hsb, hsc, hsn, hwz, hth, hla, hli, hlt, hpr, hby, htp, hrm, hhd, hlr, hK⟩ := hr
  exact b4
theorem RR_c4 {F : Nat} {s : Nat → Nat} {J K : j_M} (hr : RR F s J K) : s 4 ≤ 20 := by
  obtain ⟨a0, b0, c0, a1, b1, c1, a2, b2, c2, a3, b3, c3, d3, a4, b4, c4, a5, b5, c5, a6, b6, c6, a7, b7, c7, a8, b8, c8, a9, b9, c9, a10, b10, c10, a11, b11, c11, a12, a15, c15, a14, b14, c14, e1, e2, e3, e4, e5, e6, r1, r2, r3, r4, r5, r6, r7, r8, r9, r10, r11, r12, r13, r14, r15, r16, r17, hwk, hso, hrn, hnu, hpt, hrg, hbx, hor, hsa, hsb, hsc, hsn, hwz, hth, hla, hli, hlt, hpr, hby, htp, hrm, hhd, hlr, hK⟩ := hr
  exact c4
theorem RR_a5 {F : Nat} {s : Nat → Nat} {J K : j_M} (hr : RR F s J K) : J 150 0 = nI (s 5) := by
  obtain ⟨a0, b0, c0, a1, b1, c1, a2, b2, c2, a3, b3, c3, d3, a4, b4, c4, a5, b5, c5, a6, b6, c6, a7, b7, c7, a8, b8, c8, a9, b9, c9, a10, b10, c10, a11, b11, c11, a12, a15, c15, a14, b14, c14, e1, e2, e3, e4, e5, e6, r1, r2, r3, r4, r5, r6, r7, r8, r9, r10, r11, r12, r13, r14, r15, r16, r17, hwk, hso, hrn, hnu, hpt, hrg, hbx, hor, hsa, hsb, hsc, hsn, hwz, hth, hla, hli, hlt, hpr, hby, htp, hrm, hhd, hlr, hK⟩ := hr
  exact a5
theorem RR_b5 {F : Nat} {s : Nat → Nat} {J K : j_M} (hr : RR F s J K) : K 215 28 = nI (s 5) := by
  obtain ⟨a0, b0, c0, a1, b1, c1, a2, b2, c2, a3, b3, c3, d3, a4, b4, c4, a5, b5, c5, a6, b6, c6, a7, b7, c7, a8, b8, c8, a9, b9, c9, a10, b10, c10, a11, b11, c11, a12, a15, c15, a14, b14, c14, e1, e2, e3, e4, e5, e6, r1, r2, r3, r4, r5, r6, r7, r8, r9, r10, r11, r12, r13, r14, r15, r16, r17, hwk, hso, hrn, hnu, hpt, hrg, hbx, hor, hsa, hsb, hsc, hsn, hwz, hth, hla, hli, hlt, hpr, hby, htp, hrm, hhd, hlr, hK⟩ := hr
  exact b5
theorem RR_c5 {F : Nat} {s : Nat → Nat} {J K : j_M} (hr : RR F s J K) : s 5 ≤ 40 := by
  obtain ⟨a0, b0, c0, a1, b1, c1, a2, b2, c2, a3, b3, c3, d3, a4, b4, c4, a5, b5, c5, a6, b6, c6, a7, b7, c7, a8, b8, c8, a9, b9, c9, a10, b10, c10, a11, b11, c11, a12, a15, c15, a14, b14, c14, e1, e2, e3, e4, e5, e6, r1, r2, r3, r4, r5, r6, r7, r8, r9, r10, r11, r12, r13, r14, r15, r16, r17, hwk, hso, hrn, hnu, hpt, hrg, hbx, hor, hsa, hsb, hsc, hsn, hwz, hth, hla, hli, hlt, hpr, hby, htp, hrm, hhd, hlr, hK⟩ := hr
  exact c5
theorem RR_a6 {F : Nat} {s : Nat → Nat} {J K : j_M} (hr : RR F s J K) : J 150 1 = nI (s 6) := by
  obtain ⟨a0, b0, c0, a1, b1, c1, a2, b2, c2, a3, b3, c3, d3, a4, b4, c4, a5, b5, c5, a6, b6, c6, a7, b7, c7, a8, b8, c8, a9, b9, c9, a10, b10, c10, a11, b11, c11, a12, a15, c15, a14, b14, c14, e1, e2, e3, e4, e5, e6, r1, r2, r3, r4, r5, r6, r7, r8, r9, r10, r11, r12, r13, r14, r15, r16, r17, hwk, hso, hrn, hnu, hpt, hrg, hbx, hor, hsa, hsb, hsc, hsn, hwz, hth, hla, hli, hlt, hpr, hby, htp, hrm, hhd, hlr, hK⟩ := hr
  exact a6
theorem RR_b6 {F : Nat} {s : Nat → Nat} {J K : j_M} (hr : RR F s J K) : K 215 30 = nI (s 6) := by
  obtain ⟨a0, b0, c0, a1, b1, c1, a2, b2, c2, a3, b3, c3, d3, a4, b4, c4, a5, b5, c5, a6, b6, c6, a7, b7, c7, a8, b8, c8, a9, b9, c9, a10, b10, c10, a11, b11, c11, a12, a15, c15, a14, b14, c14, e1, e2, e3, e4, e5, e6, r1, r2, r3, r4, r5, r6, r7, r8, r9, r10, r11, r12, r13, r14, r15, r16, r17, hwk, hso, hrn, hnu, hpt, hrg, hbx, hor, hsa, hsb, hsc, hsn, hwz, hth, hla, hli, hlt, hpr, hby, htp, hrm, hhd, hlr, hK⟩ := hr
  exact b6
theorem RR_c6 {F : Nat} {s : Nat → Nat} {J K : j_M} (hr : RR F s J K) : s 6 ≤ 80 := by
  obtain ⟨a0, b0, c0, a1, b1, c1, a2, b2, c2, a3, b3, c3, d3, a4, b4, c4, a5, b5, c5, a6, b6, c6, a7, b7, c7, a8, b8, c8, a9, b9, c9, a10, b10, c10, a11, b11, c11, a12, a15, c15, a14, b14, c14, e1, e2, e3, e4, e5, e6, r1, r2, r3, r4, r5, r6, r7, r8, r9, r10, r11, r12, r13, r14, r15, r16, r17, hwk, hso, hrn, hnu, hpt, hrg, hbx, hor, hsa, hsb, hsc, hsn, hwz, hth, hla, hli, hlt, hpr, hby, htp, hrm, hhd, hlr, hK⟩ := hr
  exact c6
theorem RR_a7 {F : Nat} {s : Nat → Nat} {J K : j_M} (hr : RR F s J K) : J 194 0 = nI (s 7) := by
  obtain ⟨a0, b0, c0, a1, b1, c1, a2, b2, c2, a3, b3, c3, d3, a4, b4, c4, a5, b5, c5, a6, b6, c6, a7, b7, c7, a8, b8, c8, a9, b9, c9, a10, b10, c10, a11, b11, c11, a12, a15, c15, a14, b14, c14, e1, e2, e3, e4, e5, e6, r1, r2, r3, r4, r5, r6, r7, r8, r9, r10, r11, r12, r13, r14, r15, r16, r17, hwk, hso, hrn, hnu, hpt, hrg, hbx, hor, hsa, hsb, hsc, hsn, hwz, hth, hla, hli, hlt, hpr, hby, htp, hrm, hhd, hlr, hK⟩ := hr
  exact a7
theorem RR_b7 {F : Nat} {s : Nat → Nat} {J K : j_M} (hr : RR F s J K) : K 215 40 = nI (s 7) := by
  obtain ⟨a0, b0, c0, a1, b1, c1, a2, b2, c2, a3, b3, c3, d3, a4, b4, c4, a5, b5, c5, a6, b6, c6, a7, b7, c7, a8, b8, c8, a9, b9, c9, a10, b10, c10, a11, b11, c11, a12, a15, c15, a14, b14, c14, e1, e2, e3, e4, e5, e6, r1, r2, r3, r4, r5, r6, r7, r8, r9, r10, r11, r12, r13, r14, r15, r16, r17, hwk, hso, hrn, hnu, hpt, hrg, hbx, hor, hsa, hsb, hsc, hsn, hwz, hth, hla, hli, hlt, hpr, hby, htp, hrm, hhd, hlr, hK⟩ := hr
  exact b7
theorem RR_c7 {F : Nat} {s : Nat → Nat} {J K : j_M} (hr : RR F s J K) : s 7 ≤ 20 := by
  obtain ⟨a0, b0, c0, a1, b1, c1, a2, b2, c2, a3, b3, c3, d3, a4, b4, c4, a5, b5, c5, a6, b6, c6, a7, b7, c7, a8, b8, c8, a9, b9, c9, a10, b10, c10, a11, b11, c11, a12, a15, c15, a14, b14, c14, e1, e2, e3, e4, e5, e6, r1, r2, r3, r4, r5, r6, r7, r8, r9, r10, r11, r12, r13, r14, r15, r16, r17, hwk, hso, hrn, hnu, hpt, hrg, hbx, hor, hsa, hsb, hsc, hsn, hwz, hth, hla, hli, hlt, hpr, hby, htp, hrm, hhd, hlr, hK⟩ := hr
  exact c7
theorem RR_a8 {F : Nat} {s : Nat → Nat} {J K : j_M} (hr : RR F s J K) : J 198 4 = nI (s 8) := by
  obtain ⟨a0, b0, c0, a1, b1, c1, a2, b2, c2, a3, b3, c3, d3, a4, b4, c4, a5, b5, c5, a6, b6, c6, a7, b7, c7, a8, b8, c8, a9, b9, c9, a10, b10, c10, a11, b11, c11, a12, a15, c15, a14, b14, c14, e1, e2, e3, e4, e5, e6, r1, r2, r3, r4, r5, r6, r7, r8, r9, r10, r11, r12, r13, r14, r15, r16, r17, hwk, hso, hrn, hnu, hpt, hrg, hbx, hor, hsa, hsb, hsc, hsn, hwz, hth, hla, hli, hlt, hpr, hby, htp, hrm, hhd, hlr, hK⟩ := hr
  exact a8
theorem RR_b8 {F : Nat} {s : Nat → Nat} {J K : j_M} (hr : RR F s J K) : K 215 46 = nI (s 8) := by
  obtain ⟨a0, b0, c0, a1, b1, c1, a2, b2, c2, a3, b3, c3, d3, a4, b4, c4, a5, b5, c5, a6, b6, c6, a7, b7, c7, a8, b8, c8, a9, b9, c9, a10, b10, c10, a11, b11, c11, a12, a15, c15, a14, b14, c14, e1, e2, e3, e4, e5, e6, r1, r2, r3, r4, r5, r6, r7, r8, r9, r10, r11, r12, r13, r14, r15, r16, r17, hwk, hso, hrn, hnu, hpt, hrg, hbx, hor, hsa, hsb, hsc, hsn, hwz, hth, hla, hli, hlt, hpr, hby, htp, hrm, hhd, hlr, hK⟩ := hr
  exact b8
theorem RR_c8 {F : Nat} {s : Nat → Nat} {J K : j_M} (hr : RR F s J K) : s 8 ≤ 60 := by
  obtain ⟨a0, b0, c0, a1, b1, c1, a2, b2, c2, a3, b3, c3, d3, a4, b4, c4, a5, b5, c5, a6, b6, c6, a7, b7, c7, a8, b8, c8, a9, b9, c9, a10, b10, c10, a11, b11, c11, a12, a15, c15, a14, b14, c14, e1, e2, e3, e4, e5, e6, r1, r2, r3, r4, r5, r6, r7, r8, r9, r10, r11, r12, r13, r14, r15, r16, r17, hwk, hso, hrn, hnu, hpt, hrg, hbx, hor, hsa, hsb, hsc, hsn, hwz, hth, hla, hli, hlt, hpr, hby, htp, hrm, hhd, hlr, hK⟩ := hr
  exact c8
theorem RR_a9 {F : Nat} {s : Nat → Nat} {J K : j_M} (hr : RR F s J K) : J 202 0 = nI (s 9) := by
  obtain ⟨a0, b0, c0, a1, b1, c1, a2, b2, c2, a3, b3, c3, d3, a4, b4, c4, a5, b5, c5, a6, b6, c6, a7, b7, c7, a8, b8, c8, a9, b9, c9, a10, b10, c10, a11, b11, c11, a12, a15, c15, a14, b14, c14, e1, e2, e3, e4, e5, e6, r1, r2, r3, r4, r5, r6, r7, r8, r9, r10, r11, r12, r13, r14, r15, r16, r17, hwk, hso, hrn, hnu, hpt, hrg, hbx, hor, hsa, hsb, hsc, hsn, hwz, hth, hla, hli, hlt, hpr, hby, htp, hrm, hhd, hlr, hK⟩ := hr
  exact a9
theorem RR_b9 {F : Nat} {s : Nat → Nat} {J K : j_M} (hr : RR F s J K) : K 215 52 = nI (s 9) := by
  obtain ⟨a0, b0, c0, a1, b1, c1, a2, b2, c2, a3, b3, c3, d3, a4, b4, c4, a5, b5, c5, a6, b6, c6, a7, b7, c7, a8, b8, c8, a9, b9, c9, a10, b10, c10, a11, b11, c11, a12, a15, c15, a14, b14, c14, e1, e2, e3, e4, e5, e6, r1, r2, r3, r4, r5, r6, r7, r8, r9, r10, r11, r12, r13, r14, r15, r16, r17, hwk, hso, hrn, hnu, hpt, hrg, hbx, hor, hsa, hsb, hsc, hsn, hwz, hth, hla, hli, hlt, hpr, hby, htp, hrm, hhd, hlr, hK⟩ := hr
  exact b9
theorem RR_c9 {F : Nat} {s : Nat → Nat} {J K : j_M} (hr : RR F s J K) : s 9 ≤ 30 := by
  obtain ⟨a0, b0, c0, a1, b1, c1, a2, b2, c2, a3, b3, c3, d3, a4, b4, c4, a5, b5, c5, a6, b6, c6, a7, b7, c7, a8, b8, c8, a9, b9, c9, a10, b10, c10, a11, b11, c11, a12, a15, c15, a14, b14, c14, e1, e2, e3, e4, e5, e6, r1, r2, r3, r4, r5, r6, r7, r8, r9, r10, r11, r12, r13, r14, r15, r16, r17, hwk, hso, hrn, hnu, hpt, hrg, hbx, hor, hsa, hsb, hsc, hsn, hwz, hth, hla, hli, hlt, hpr, hby, htp, hrm, hhd, hlr, hK⟩ := hr
  exact c9
theorem RR_a10 {F : Nat} {s : Nat → Nat} {J K : j_M} (hr : RR F s J K) : J 202 1 = nI (s 10) := by
  obtain ⟨a0, b0, c0, a1, b1, c1, a2, b2, c2, a3, b3, c3, d3, a4, b4, c4, a5, b5, c5, a6, b6, c6, a7, b7, c7, a8, b8, c8, a9, b9, c9, a10, b10, c10, a11, b11, c11, a12, a15, c15, a14, b14, c14, e1, e2, e3, e4, e5, e6, r1, r2, r3, r4, r5, r6, r7, r8, r9, r10, r11, r12, r13, r14, r15, r16, r17, hwk, hso, hrn, hnu, hpt, hrg, hbx, hor, hsa, hsb, hsc, hsn, hwz, hth, hla, hli, hlt, hpr, hby, htp, hrm, hhd, hlr, hK⟩ := hr
  exact a10
theorem RR_b10 {F : Nat} {s : Nat → Nat} {J K : j_M} (hr : RR F s J K) : K 215 51 = nI (s 10) := by
  obtain ⟨a0, b0, c0, a1, b1, c1, a2, b2, c2, a3, b3, c3, d3, a4, b4, c4, a5, b5, c5, a6, b6, c6, a7, b7, c7, a8, b8, c8, a9, b9, c9, a10, b10, c10, a11, b11, c11, a12, a15, c15, a14, b14, c14, e1, e2, e3, e4, e5, e6, r1, r2, r3, r4, r5, r6, r7, r8, r9, r10, r11, r12, r13, r14, r15, r16, r17, hwk, hso, hrn, hnu, hpt, hrg, hbx, hor, hsa, hsb, hsc, hsn, hwz, hth, hla, hli, hlt, hpr, hby, htp, hrm, hhd, hlr, hK⟩ := hr
  exact b10
theorem RR_c10 {F : Nat} {s : Nat → Nat} {J K : j_M} (hr : RR F s J K) : s 10 ≤ 120 := by
  obtain ⟨a0, b0, c0, a1, b1, c1, a2, b2, c2, a3, b3, c3, d3, a4, b4, c4, a5, b5, c5, a6, b6, c6, a7, b7, c7, a8, b8, c8, a9, b9, c9, a10, b10, c10, a11, b11, c11, a12, a15, c15, a14, b14, c14, e1, e2, e3, e4, e5, e6, r1, r2, r3, r4, r5, r6, r7, r8, r9, r10, r11, r12, r13, r14, r15, r16, r17, hwk, hso, hrn, hnu, hpt, hrg, hbx, hor, hsa, hsb, hsc, hsn, hwz, hth, hla, hli, hlt, hpr, hby, htp, hrm, hhd, hlr, hK⟩ := hr
  exact c10
theorem RR_a11 {F : Nat} {s : Nat → Nat} {J K : j_M} (hr : RR F s J K) : J 143 6 = nI (s 11) := by
  obtain ⟨a0, b0, c0, a1, b1, c1, a2, b2, c2, a3, b3, c3, d3, a4, b4, c4, a5, b5, c5, a6, b6, c6, a7, b7, c7, a8, b8, c8, a9, b9, c9, a10, b10, c10, a11, b11, c11, a12, a15, c15, a14, b14, c14, e1, e2, e3, e4, e5, e6, r1, r2, r3, r4, r5, r6, r7, r8, r9, r10, r11, r12, r13, r14, r15, r16, r17, hwk, hso, hrn, hnu, hpt, hrg, hbx, hor, hsa, hsb, hsc, hsn, hwz, hth, hla, hli, hlt, hpr, hby, htp, hrm, hhd, hlr, hK⟩ := hr
  exact a11
theorem RR_b11 {F : Nat} {s : Nat → Nat} {J K : j_M} (hr : RR F s J K) : K 215 68 = nI (s 11) := by
  obtain ⟨a0, b0, c0, a1, b1, c1, a2, b2, c2, a3, b3, c3, d3, a4, b4, c4, a5, b5, c5, a6, b6, c6, a7, b7, c7, a8, b8, c8, a9, b9, c9, a10, b10, c10, a11, b11, c11, a12, a15, c15, a14, b14, c14, e1, e2, e3, e4, e5, e6, r1, r2, r3, r4, r5, r6, r7, r8, r9, r10, r11, r12, r13, r14, r15, r16, r17, hwk, hso, hrn, hnu, hpt, hrg, hbx, hor, hsa, hsb, hsc, hsn, hwz, hth, hla, hli, hlt, hpr, hby, htp, hrm, hhd, hlr, hK⟩ := hr
  exact b11
theorem RR_c11 {F : Nat} {s : Nat → Nat} {J K : j_M} (hr : RR F s J K) : s 11 ≤ 20 := by
  obtain ⟨a0, b0, c0, a1, b1, c1, a2, b2, c2, a3, b3, c3, d3, a4, b4, c4, a5, b5, c5, a6, b6, c6, a7, b7, c7, a8, b8, c8, a9, b9, c9, a10, b10, c10, a11, b11, c11, a12, a15, c15, a14, b14, c14, e1, e2, e3, e4, e5, e6, r1, r2, r3, r4, r5, r6, r7, r8, r9, r10, r11, r12, r13, r14, r15, r16, r17, hwk, hso, hrn, hnu, hpt, hrg, hbx, hor, hsa, hsb, hsc, hsn, hwz, hth, hla, hli, hlt, hpr, hby, htp, hrm, hhd, hlr, hK⟩ := hr
  exact c11
theorem RR_a12 {F : Nat} {s : Nat → Nat} {J K : j_M} (hr : RR F s J K) : J 143 1 = nI (s 12) := by
  obtain ⟨a0, b0, c0, a1, b1, c1, a2, b2, c2, a3, b3, c3, d3, a4, b4, c4, a5, b5, c5, a6, b6, c6, a7, b7, c7, a8, b8, c8, a9, b9, c9, a10, b10, c10, a11, b11, c11, a12, a15, c15, a14, b14, c14, e1, e2, e3, e4, e5, e6, r1, r2, r3, r4, r5, r6, r7, r8, r9, r10, r11, r12, r13, r14, r15, r16, r17, hwk, hso, hrn, hnu, hpt, hrg, hbx, hor, hsa, hsb, hsc, hsn, hwz, hth, hla, hli, hlt, hpr, hby, htp, hrm, hhd, hlr, hK⟩ := hr
  exact a12
theorem RR_a15 {F : Nat} {s : Nat → Nat} {J K : j_M} (hr : RR F s J K) : J 143 0 = nI (s 15) := by
  obtain ⟨a0, b0, c0, a1, b1, c1, a2, b2, c2, a3, b3, c3, d3, a4, b4, c4, a5, b5, c5, a6, b6, c6, a7, b7, c7, a8, b8, c8, a9, b9, c9, a10, b10, c10, a11, b11, c11, a12, a15, c15, a14, b14, c14, e1, e2, e3, e4, e5, e6, r1, r2, r3, r4, r5, r6, r7, r8, r9, r10, r11, r12, r13, r14, r15, r16, r17, hwk, hso, hrn, hnu, hpt, hrg, hbx, hor, hsa, hsb, hsc, hsn, hwz, hth, hla, hli, hlt, hpr, hby, htp, hrm, hhd, hlr, hK⟩ := hr
  exact a15
theorem RR_c15 {F : Nat} {s : Nat → Nat} {J K : j_M} (hr : RR F s J K) : s 15 ≤ 480 := by
  obtain ⟨a0, b0, c0, a1, b1, c1, a2, b2, c2, a3, b3, c3, d3, a4, b4, c4, a5, b5, c5, a6, b6, c6, a7, b7, c7, a8, b8, c8, a9, b9, c9, a10, b10, c10, a11, b11, c11, a12, a15, c15, a14, b14, c14, e1, e2, e3, e4, e5, e6, r1, r2, r3, r4, r5, r6, r7, r8, r9, r10, r11, r12, r13, r14, r15, r16, r17, hwk, hso, hrn, hnu, hpt, hrg, hbx, hor, hsa, hsb, hsc, hsn, hwz, hth, hla, hli, hlt, hpr, hby, htp, hrm, hhd, hlr, hK⟩ := hr
  exact c15
theorem RR_a14 {F : Nat} {s : Nat → Nat} {J K : j_M} (hr : RR F s J K) : J 198 2 = nI (s 14) := by
  obtain ⟨a0, b0, c0, a1, b1, c1, a2, b2, c2, a3, b3, c3, d3, a4, b4, c4, a5, b5, c5, a6, b6, c6, a7, b7, c7, a8, b8, c8, a9, b9, c9, a10, b10, c10, a11, b11, c11, a12, a15, c15, a14, b14, c14, e1, e2, e3, e4, e5, e6, r1, r2, r3, r4, r5, r6, r7, r8, r9, r10, r11, r12, r13, r14, r15, r16, r17, hwk, hso, hrn, hnu, hpt, hrg, hbx, hor, hsa, hsb, hsc, hsn, hwz, hth, hla, hli, hlt, hpr, hby, htp, hrm, hhd, hlr, hK⟩ := hr
  exact a14
theorem RR_b14 {F : Nat} {s : Nat → Nat} {J K : j_M} (hr : RR F s J K) : K 215 45 = nI (s 14) := by
  obtain ⟨a0, b0, c0, a1, b1, c1, a2, b2, c2, a3, b3, c3, d3, a4, b4, c4, a5, b5, c5, a6, b6, c6, a7, b7, c7, a8, b8, c8, a9, b9, c9, a10, b10, c10, a11, b11, c11, a12, a15, c15, a14, b14, c14, e1, e2, e3, e4, e5, e6, r1, r2, r3, r4, r5, r6, r7, r8, r9, r10, r11, r12, r13, r14, r15, r16, r17, hwk, hso, hrn, hnu, hpt, hrg, hbx, hor, hsa, hsb, hsc, hsn, hwz, hth, hla, hli, hlt, hpr, hby, htp, hrm, hhd, hlr, hK⟩ := hr
  exact b14
theorem RR_c14 {F : Nat} {s : Nat → Nat} {J K : j_M} (hr : RR F s J K) : s 14 ≤ 9 := by
  obtain ⟨a0, b0, c0, a1, b1, c1, a2, b2, c2, a3, b3, c3, d3, a4, b4, c4, a5, b5, c5, a6, b6, c6, a7, b7, c7, a8, b8, c8, a9, b9, c9, a10, b10, c10, a11, b11, c11, a12, a15, c15, a14, b14, c14, e1, e2, e3, e4, e5, e6, r1, r2, r3, r4, r5, r6, r7, r8, r9, r10, r11, r12, r13, r14, r15, r16, r17, hwk, hso, hrn, hnu, hpt, hrg, hbx, hor, hsa, hsb, hsc, hsn, hwz, hth, hla, hli, hlt, hpr, hby, htp, hrm, hhd, hlr, hK⟩ := hr
  exact c14
theorem RR_e1 {F : Nat} {s : Nat → Nat} {J K : j_M} (hr : RR F s J K) : J 0 12 = K 215 24 := by
  obtain ⟨a0, b0, c0, a1, b1, c1, a2, b2, c2, a3, b3, c3, d3, a4, b4, c4, a5, b5, c5, a6, b6, c6, a7, b7, c7, a8, b8, c8, a9, b9, c9, a10, b10, c10, a11, b11, c11, a12, a15, c15, a14, b14, c14, e1, e2, e3, e4, e5, e6, r1, r2, r3, r4, r5, r6, r7, r8, r9, r10, r11, r12, r13, r14, r15, r16, r17, hwk, hso, hrn, hnu, hpt, hrg, hbx, hor, hsa, hsb, hsc, hsn, hwz, hth, hla, hli, hlt, hpr, hby, htp, hrm, hhd, hlr, hK⟩ := hr
  exact e1
theorem RR_e2 {F : Nat} {s : Nat → Nat} {J K : j_M} (hr : RR F s J K) : J 0 13 = K 215 25 := by
  obtain ⟨a0, b0, c0, a1, b1, c1, a2, b2, c2, a3, b3, c3, d3, a4, b4, c4, a5, b5, c5, a6, b6, c6, a7, b7, c7, a8, b8, c8, a9, b9, c9, a10, b10, c10, a11, b11, c11, a12, a15, c15, a14, b14, c14, e1, e2, e3, e4, e5, e6, r1, r2, r3, r4, r5, r6, r7, r8, r9, r10, r11, r12, r13, r14, r15, r16, r17, hwk, hso, hrn, hnu, hpt, hrg, hbx, hor, hsa, hsb, hsc, hsn, hwz, hth, hla, hli, hlt, hpr, hby, htp, hrm, hhd, hlr, hK⟩ := hr
  exact e2
theorem RR_e3 {F : Nat} {s : Nat → Nat} {J K : j_M} (hr : RR F s J K) : J 0 14 = K 215 26 := by
  obtain ⟨a0, b0, c0, a1, b1, c1, a2, b2, c2, a3, b3, c3, d3, a4, b4, c4, a5, b5, c5, a6, b6, c6, a7, b7, c7, a8, b8, c8, a9, b9, c9, a10, b10, c10, a11, b11, c11, a12, a15, c15, a14, b14, c14, e1, e2, e3, e4, e5, e6, r1, r2, r3, r4, r5, r6, r7, r8, r9, r10, r11, r12, r13, r14, r15, r16, r17, hwk, hso, hrn, hnu, hpt, hrg, hbx, hor, hsa, hsb, hsc, hsn, hwz, hth, hla, hli, hlt, hpr, hby, htp, hrm, hhd, hlr, hK⟩ := hr
  exact e3
theorem RR_e4 {F : Nat} {s : Nat → Nat} {J K : j_M} (hr : RR F s J K) : J 198 0 = K 215 43 := by
  obtain ⟨a0, b0, c0, a1, b1, c1, a2, b2, c2, a3, b3, c3, d3, a4, b4, c4, a5, b5, c5, a6, b6, c6, a7, b7, c7, a8, b8, c8, a9, b9, c9, a10, b10, c10, a11, b11, c11, a12, a15, c15, a14, b14, c14, e1, e2, e3, e4, e5, e6, r1, r2, r3, r4, r5, r6, r7, r8, r9, r10, r11, r12, r13, r14, r15, r16, r17, hwk, hso, hrn, hnu, hpt, hrg, hbx, hor, hsa, hsb, hsc, hsn, hwz, hth, hla, hli, hlt, hpr, hby, htp, hrm, hhd, hlr, hK⟩ := hr
  exact e4
theorem RR_e5 {F : Nat} {s : Nat → Nat} {J K : j_M} (hr : RR F s J K) : J 198 1 = K 215 44 := by
  obtain ⟨a0, b0, c0, a1, b1, c1, a2, b2, c2, a3, b3, c3, d3, a4, b4, c4, a5, b5, c5, a6, b6, c6, a7, b7, c7, a8, b8, c8, a9, b9, c9, a10, b10, c10, a11, b11, c11, a12, a15, c15, a14, b14, c14, e1, e2, e3, e4, e5, e6, r1, r2, r3, r4, r5, r6, r7, r8, r9, r10, r11, r12, r13, r14, r15, r16, r17, hwk, hso, hrn, hnu, hpt, hrg, hbx, hor, hsa, hsb, hsc, hsn, hwz, hth, hla, hli, hlt, hpr, hby, htp, hrm, hhd, hlr, hK⟩ := hr
  exact e5
theorem RR_e6 {F : Nat} {s : Nat → Nat} {J K : j_M} (hr : RR F s J K) : J 198 3 = K 215 27 := by
  obtain ⟨a0, b0, c0, a1, b1, c1, a2, b2, c2, a3, b3, c3, d3, a4, b4, c4, a5, b5, c5, a6, b6, c6, a7, b7, c7, a8, b8, c8, a9, b9, c9, a10, b10, c10, a11, b11, c11, a12, a15, c15, a14, b14, c14, e1, e2, e3, e4, e5, e6, r1, r2, r3, r4, r5, r6, r7, r8, r9, r10, r11, r12, r13, r14, r15, r16, r17, hwk, hso, hrn, hnu, hpt, hrg, hbx, hor, hsa, hsb, hsc, hsn, hwz, hth, hla, hli, hlt, hpr, hby, htp, hrm, hhd, hlr, hK⟩ := hr
  exact e6
theorem RR_r1 {F : Nat} {s : Nat → Nat} {J K : j_M} (hr : RR F s J K) : J 2 = K 216 := by
  obtain ⟨a0, b0, c0, a1, b1, c1, a2, b2, c2, a3, b3, c3, d3, a4, b4, c4, a5, b5, c5, a6, b6, c6, a7, b7, c7, a8, b8, c8, a9, b9, c9, a10, b10, c10, a11, b11, c11, a12, a15, c15, a14, b14, c14, e1, e2, e3, e4, e5, e6, r1, r2, r3, r4, r5, r6, r7, r8, r9, r10, r11, r12, r13, r14, r15, r16, r17, hwk, hso, hrn, hnu, hpt, hrg, hbx, hor, hsa, hsb, hsc, hsn, hwz, hth, hla, hli, hlt, hpr, hby, htp, hrm, hhd, hlr, hK⟩ := hr
  exact r1
theorem RR_r2 {F : Nat} {s : Nat → Nat} {J K : j_M} (hr : RR F s J K) : J 3 = K 217 := by
  obtain ⟨a0, b0, c0, a1, b1, c1, a2, b2, c2, a3, b3, c3, d3, a4, b4, c4, a5, b5, c5, a6, b6, c6, a7, b7, c7, a8, b8, c8, a9, b9, c9, a10, b10, c10, a11, b11, c11, a12, a15, c15, a14, b14, c14, e1, e2, e3, e4, e5, e6, r1, r2, r3, r4, r5, r6, r7, r8, r9, r10, r11, r12, r13, r14, r15, r16, r17, hwk, hso, hrn, hnu, hpt, hrg, hbx, hor, hsa, hsb, hsc, hsn, hwz, hth, hla, hli, hlt, hpr, hby, htp, hrm, hhd, hlr, hK⟩ := hr
  exact r2
theorem RR_r3 {F : Nat} {s : Nat → Nat} {J K : j_M} (hr : RR F s J K) : J 40 = K 222 := by
  obtain ⟨a0, b0, c0, a1, b1, c1, a2, b2, c2, a3, b3, c3, d3, a4, b4, c4, a5, b5, c5, a6, b6, c6, a7, b7, c7, a8, b8, c8, a9, b9, c9, a10, b10, c10, a11, b11, c11, a12, a15, c15, a14, b14, c14, e1, e2, e3, e4, e5, e6, r1, r2, r3, r4, r5, r6, r7, r8, r9, r10, r11, r12, r13, r14, r15, r16, r17, hwk, hso, hrn, hnu, hpt, hrg, hbx, hor, hsa, hsb, hsc, hsn, hwz, hth, hla, hli, hlt, hpr, hby, htp, hrm, hhd, hlr, hK⟩ := hr
  exact r3
theorem RR_r4 {F : Nat} {s : Nat → Nat} {J K : j_M} (hr : RR F s J K) : J 151 = K 234 := by
  obtain ⟨a0, b0, c0, a1, b1, c1, a2, b2, c2, a3, b3, c3, d3, a4, b4, c4, a5, b5, c5, a6, b6, c6, a7, b7, c7, a8, b8, c8, a9, b9, c9, a10, b10, c10, a11, b11, c11, a12, a15, c15, a14, b14, c14, e1, e2, e3, e4, e5, e6, r1, r2, r3, r4, r5, r6, r7, r8, r9, r10, r11, r12, r13, r14, r15, r16, r17, hwk, hso, hrn, hnu, hpt, hrg, hbx, hor, hsa, hsb, hsc, hsn, hwz, hth, hla, hli, hlt, hpr, hby, htp, hrm, hhd, hlr, hK⟩ := hr
  exact r4
theorem RR_r5 {F : Nat} {s : Nat → Nat} {J K : j_M} (hr : RR F s J K) : J 195 = K 240 := by
  obtain ⟨a0, b0, c0, a1, b1, c1, a2, b2, c2, a3, b3, c3, d3, a4, b4, c4, a5, b5, c5, a6, b6, c6, a7, b7, c7, a8, b8, c8, a9, b9, c9, a10, b10, c10, a11, b11, c11, a12, a15, c15, a14, b14, c14, e1, e2, e3, e4, e5, e6, r1, r2, r3, r4, r5, r6, r7, r8, r9, r10, r11, r12, r13, r14, r15, r16, r17, hwk, hso, hrn, hnu, hpt, hrg, hbx, hor, hsa, hsb, hsc, hsn, hwz, hth, hla, hli, hlt, hpr, hby, htp, hrm, hhd, hlr, hK⟩ := hr
  exact r5
theorem RR_r6 {F : Nat} {s : Nat → Nat} {J K : j_M} (hr : RR F s J K) : J 196 = K 241 := by
  obtain ⟨a0, b0, c0, a1, b1, c1, a2, b2, c2, a3, b3, c3, d3, a4, b4, c4, a5, b5, c5, a6, b6, c6, a7, b7, c7, a8, b8, c8, a9, b9, c9, a10, b10, c10, a11, b11, c11, a12, a15, c15, a14, b14, c14, e1, e2, e3, e4, e5, e6, r1, r2, r3, r4, r5, r6, r7, r8, r9, r10, r11, r12, r13, r14, r15, r16, r17, hwk, hso, hrn, hnu, hpt, hrg, hbx, hor, hsa, hsb, hsc, hsn, hwz, hth, hla, hli, hlt, hpr, hby, htp, hrm, hhd, hlr, hK⟩ := hr
  exact r6
theorem RR_r7 {F : Nat} {s : Nat → Nat} {J K : j_M} (hr : RR F s J K) : J 199 = K 242 := by
  obtain ⟨a0, b0, c0, a1, b1, c1, a2, b2, c2, a3, b3, c3, d3, a4, b4, c4, a5, b5, c5, a6, b6, c6, a7, b7, c7, a8, b8, c8, a9, b9, c9, a10, b10, c10, a11, b11, c11, a12, a15, c15, a14, b14, c14, e1, e2, e3, e4, e5, e6, r1, r2, r3, r4, r5, r6, r7, r8, r9, r10, r11, r12, r13, r14, r15, r16, r17, hwk, hso, hrn, hnu, hpt, hrg, hbx, hor, hsa, hsb, hsc, hsn, hwz, hth, hla, hli, hlt, hpr, hby, htp, hrm, hhd, hlr, hK⟩ := hr
  exact r7
theorem RR_r8 {F : Nat} {s : Nat → Nat} {J K : j_M} (hr : RR F s J K) : J 200 = K 243 := by
  obtain ⟨a0, b0, c0, a1, b1, c1, a2, b2, c2, a3, b3, c3, d3, a4, b4, c4, a5, b5, c5, a6, b6, c6, a7, b7, c7, a8, b8, c8, a9, b9, c9, a10, b10, c10, a11, b11, c11, a12, a15, c15, a14, b14, c14, e1, e2, e3, e4, e5, e6, r1, r2, r3, r4, r5, r6, r7, r8, r9, r10, r11, r12, r13, r14, r15, r16, r17, hwk, hso, hrn, hnu, hpt, hrg, hbx, hor, hsa, hsb, hsc, hsn, hwz, hth, hla, hli, hlt, hpr, hby, htp, hrm, hhd, hlr, hK⟩ := hr
  exact r8
theorem RR_r9 {F : Nat} {s : Nat → Nat} {J K : j_M} (hr : RR F s J K) : J 201 = K 244 := by
  obtain ⟨a0, b0, c0, a1, b1, c1, a2, b2, c2, a3, b3, c3, d3, a4, b4, c4, a5, b5, c5, a6, b6, c6, a7, b7, c7, a8, b8, c8, a9, b9, c9, a10, b10, c10, a11, b11, c11, a12, a15, c15, a14, b14, c14, e1, e2, e3, e4, e5, e6, r1, r2, r3, r4, r5, r6, r7, r8, r9, r10, r11, r12, r13, r14, r15, r16, r17, hwk, hso, hrn, hnu, hpt, hrg, hbx, hor, hsa, hsb, hsc, hsn, hwz, hth, hla, hli, hlt, hpr, hby, htp, hrm, hhd, hlr, hK⟩ := hr
  exact r9
theorem RR_r10 {F : Nat} {s : Nat → Nat} {J K : j_M} (hr : RR F s J K) : J 205 = K 246 := by
  obtain ⟨a0, b0, c0, a1, b1, c1, a2, b2, c2, a3, b3, c3, d3, a4, b4, c4, a5, b5, c5, a6, b6, c6, a7, b7, c7, a8, b8, c8, a9, b9, c9, a10, b10, c10, a11, b11, c11, a12, a15, c15, a14, b14, c14, e1, e2, e3, e4, e5, e6, r1, r2, r3, r4, r5, r6, r7, r8, r9, r10, r11, r12, r13, r14, r15, r16, r17, hwk, hso, hrn, hnu, hpt, hrg, hbx, hor, hsa, hsb, hsc, hsn, hwz, hth, hla, hli, hlt, hpr, hby, htp, hrm, hhd, hlr, hK⟩ := hr
  exact r10
theorem RR_r11 {F : Nat} {s : Nat → Nat} {J K : j_M} (hr : RR F s J K) : J 206 = K 248 := by
  obtain ⟨a0, b0, c0, a1, b1, c1, a2, b2, c2, a3, b3, c3, d3, a4, b4, c4, a5, b5, c5, a6, b6, c6, a7, b7, c7, a8, b8, c8, a9, b9, c9, a10, b10, c10, a11, b11, c11, a12, a15, c15, a14, b14, c14, e1, e2, e3, e4, e5, e6, r1, r2, r3, r4, r5, r6, r7, r8, r9, r10, r11, r12, r13, r14, r15, r16, r17, hwk, hso, hrn, hnu, hpt, hrg, hbx, hor, hsa, hsb, hsc, hsn, hwz, hth, hla, hli, hlt, hpr, hby, htp, hrm, hhd, hlr, hK⟩ := hr
  exact r11
theorem RR_r12 {F : Nat} {s : Nat → Nat} {J K : j_M} (hr : RR F s J K) : J 207 = K 247 := by
  obtain ⟨a0, b0, c0, a1, b1, c1, a2, b2, c2, a3, b3, c3, d3, a4, b4, c4, a5, b5, c5, a6, b6, c6, a7, b7, c7, a8, b8, c8, a9, b9, c9, a10, b10, c10, a11, b11, c11, a12, a15, c15, a14, b14, c14, e1, e2, e3, e4, e5, e6, r1, r2, r3, r4, r5, r6, r7, r8, r9, r10, r11, r12, r13, r14, r15, r16, r17, hwk, hso, hrn, hnu, hpt, hrg, hbx, hor, hsa, hsb, hsc, hsn, hwz, hth, hla, hli, hlt, hpr, hby, htp, hrm, hhd, hlr, hK⟩ := hr
  exact r12
theorem RR_r13 {F : Nat} {s : Nat → Nat} {J K : j_M} (hr : RR F s J K) : J 212 = K 255 := by
  obtain ⟨a0, b0, c0, a1, b1, c1, a2, b2, c2, a3, b3, c3, d3, a4, b4, c4, a5, b5, c5, a6, b6, c6, a7, b7, c7, a8, b8, c8, a9, b9, c9, a10, b10, c10, a11, b11, c11, a12, a15, c15, a14, b14, c14, e1, e2, e3, e4, e5, e6, r1, r2, r3, r4, r5, r6, r7, r8, r9, r10, r11, r12, r13, r14, r15, r16, r17, hwk, hso, hrn, hnu, hpt, hrg, hbx, hor, hsa, hsb, hsc, hsn, hwz, hth, hla, hli, hlt, hpr, hby, htp, hrm, hhd, hlr, hK⟩ := hr
  exact r13
theorem RR_r14 {F : Nat} {s : Nat → Nat} {J K : j_M} (hr : RR F s J K) : J 213 = K 256 := by
  obtain ⟨a0, b0, c0, a1, b1, c1, a2, b2, c2, a3, b3, c3, d3, a4, b4, c4, a5, b5, c5, a6, b6, c6, a7, b7, c7, a8, b8, c8, a9, b9, c9, a10, b10, c10, a11, b11, c11, a12, a15, c15, a14, b14, c14, e1, e2, e3, e4, e5, e6, r1, r2, r3, r4, r5, r6, r7, r8, r9, r10, r11, r12, r13, r14, r15, r16, r17, hwk, hso, hrn, hnu, hpt, hrg, hbx, hor, hsa, hsb, hsc, hsn, hwz, hth, hla, hli, hlt, hpr, hby, htp, hrm, hhd, hlr, hK⟩ := hr
  exact r14
theorem RR_r15 {F : Nat} {s : Nat → Nat} {J K : j_M} (hr : RR F s J K) : J 214 = K 257 := by
  obtain ⟨a0, b0, c0, a1, b1, c1, a2, b2, c2, a3, b3, c3, d3, a4, b4, c4, a5, b5, c5, a6, b6, c6, a7, b7, c7, a8, b8, c8, a9, b9, c9, a10, b10, c10, a11, b11, c11, a12, a15, c15, a14, b14, c14, e1, e2, e3, e4, e5, e6, r1, r2, r3, r4, r5, r6, r7, r8, r9, r10, r11, r12, r13, r14, r15, r16, r17, hwk, hso, hrn, hnu, hpt, hrg, hbx, hor, hsa, hsb, hsc, hsn, hwz, hth, hla, hli, hlt, hpr, hby, htp, hrm, hhd, hlr, hK⟩ := hr
  exact r15
theorem RR_r16 {F : Nat} {s : Nat → Nat} {J K : j_M} (hr : RR F s J K) : J 148 = K 258 := by
  obtain ⟨a0, b0, c0, a1, b1, c1, a2, b2, c2, a3, b3, c3, d3, a4, b4, c4, a5, b5, c5, a6, b6, c6, a7, b7, c7, a8, b8, c8, a9, b9, c9, a10, b10, c10, a11, b11, c11, a12, a15, c15, a14, b14, c14, e1, e2, e3, e4, e5, e6, r1, r2, r3, r4, r5, r6, r7, r8, r9, r10, r11, r12, r13, r14, r15, r16, r17, hwk, hso, hrn, hnu, hpt, hrg, hbx, hor, hsa, hsb, hsc, hsn, hwz, hth, hla, hli, hlt, hpr, hby, htp, hrm, hhd, hlr, hK⟩ := hr
  exact r16
theorem RR_r17 {F : Nat} {s : Nat → Nat} {J K : j_M} (hr : RR F s J K) : J 149 = K 259 := by
  obtain ⟨a0, b0, c0, a1, b1, c1, a2, b2, c2, a3, b3, c3, d3, a4, b4, c4, a5, b5, c5, a6, b6, c6, a7, b7, c7, a8, b8, c8, a9, b9, c9, a10, b10, c10, a11, b11, c11, a12, a15, c15, a14, b14, c14, e1, e2, e3, e4, e5, e6, r1, r2, r3, r4, r5, r6, r7, r8, r9, r10, r11, r12, r13, r14, r15, r16, r17, hwk, hso, hrn, hnu, hpt, hrg, hbx, hor, hsa, hsb, hsc, hsn, hwz, hth, hla, hli, hlt, hpr, hby, htp, hrm, hhd, hlr, hK⟩ := hr
  exact r17
theorem RR_hwk {F : Nat} {s : Nat → Nat} {J K : j_M} (hr : RR F s J K) : R_wk (s 0) (vw 5 16 J) (vw 22 16 J) (K 218) := by
  obtain ⟨a0, b0, c0, a1, b1, c1, a2, b2, c2, a3, b3, c3, d3, a4, b4, c4, a5, b5, c5, a6, b6, c6, a7, b7, c7, a8, b8, c8, a9, b9, c9, a10, b10, c10, a11, b11, c11, a12, a15, c15, a14, b14, c14, e1, e2, e3, e4, e5, e6, r1, r2, r3, r4, r5, r6, r7, r8, r9, r10, r11, r12, r13, r14, r15, r16, r17, hwk, hso, hrn, hnu, hpt, hrg, hbx, hor, hsa, hsb, hsc, hsn, hwz, hth, hla, hli, hlt, hpr, hby, htp, hrm, hhd, hlr, hK⟩ := hr
  exact hwk
theorem RR_hso {F : Nat} {s : Nat → Nat} {J K : j_M} (hr : RR F s J K) : R_01 (J 40) := by
  obtain ⟨a0, b0, c0, a1, b1, c1, a2, b2, c2, a3, b3, c3, d3, a4, b4, c4, a5, b5, c5, a6, b6, c6, a7, b7, c7, a8, b8, c8, a9, b9, c9, a10, b10, c10, a11, b11, c11, a12, a15, c15, a14, b14, c14, e1, e2, e3, e4, e5, e6, r1, r2, r3, r4, r5, r6, r7, r8, r9, r10, r11, r12, r13, r14, r15, r16, r17, hwk, hso, hrn, hnu, hpt, hrg, hbx, hor, hsa, hsb, hsc, hsn, hwz, hth, hla, hli, hlt, hpr, hby, htp, hrm, hhd, hlr, hK⟩ := hr
  exact hso
theorem RR_hrn {F : Nat} {s : Nat → Nat} {J K : j_M} (hr : RR F s J K) : R_rn (s 4) (J 39) (K 219) (K 220) := by
  obtain ⟨a0, b0, c0, a1, b1, c1, a2, b2, c2, a3, b3, c3, d3, a4, b4, c4, a5, b5, c5, a6, b6, c6, a7, b7, c7, a8, b8, c8, a9, b9, c9, a10, b10, c10, a11, b11, c11, a12, a15, c15, a14, b14, c14, e1, e2, e3, e4, e5, e6, r1, r2, r3, r4, r5, r6, r7, r8, r9, r10, r11, r12, r13, r14, r15, r16, r17, hwk, hso, hrn, hnu, hpt, hrg, hbx, hor, hsa, hsb, hsc, hsn, hwz, hth, hla, hli, hlt, hpr, hby, htp, hrm, hhd, hlr, hK⟩ := hr
  exact hrn
theorem RR_hnu {F : Nat} {s : Nat → Nat} {J K : j_M} (hr : RR F s J K) : R_nu (vw 43 100 J) := by
  obtain ⟨a0, b0, c0, a1, b1, c1, a2, b2, c2, a3, b3, c3, d3, a4, b4, c4, a5, b5, c5, a6, b6, c6, a7, b7, c7, a8, b8, c8, a9, b9, c9, a10, b10, c10, a11, b11, c11, a12, a15, c15, a14, b14, c14, e1, e2, e3, e4, e5, e6, r1, r2, r3, r4, r5, r6, r7, r8, r9, r10, r11, r12, r13, r14, r15, r16, r17, hwk, hso, hrn, hnu, hpt, hrg, hbx, hor, hsa, hsb, hsc, hsn, hwz, hth, hla, hli, hlt, hpr, hby, htp, hrm, hhd, hlr, hK⟩ := hr
  exact hnu
theorem RR_hpt {F : Nat} {s : Nat → Nat} {J K : j_M} (hr : RR F s J K) : R_pt (s 1) (vw 43 100 J) (K 223) (K 224) (K 225) (K 226) (K 227) (K 228) (K 229) (K 230) (K 231) (K 232) := by
  obtain ⟨a0, b0, c0, a1, b1, c1, a2, b2, c2, a3, b3, c3, d3, a4, b4, c4, a5, b5, c5, a6, b6, c6, a7, b7, c7, a8, b8, c8, a9, b9, c9, a10, b10, c10, a11, b11, c11, a12, a15, c15, a14, b14, c14, e1, e2, e3, e4, e5, e6, r1, r2, r3, r4, r5, r6, r7, r8, r9, r10, r11, r12, r13, r14, r15, r16, r17, hwk, hso, hrn, hnu, hpt, hrg, hbx, hor, hsa, hsb, hsc, hsn, hwz, hth, hla, hli, hlt, hpr, hby, htp, hrm, hhd, hlr, hK⟩ := hr
  exact hpt
theorem RR_hrg {F : Nat} {s : Nat → Nat} {J K : j_M} (hr : RR F s J K) : R_rg (s 0) (s 1) (s 2) (s 7) (vw 43 100 J) := by
  obtain ⟨a0, b0, c0, a1, b1, c1, a2, b2, c2, a3, b3, c3, d3, a4, b4, c4, a5, b5, c5, a6, b6, c6, a7, b7, c7, a8, b8, c8, a9, b9, c9, a10, b10, c10, a11, b11, c11, a12, a15, c15, a14, b14, c14, e1, e2, e3, e4, e5, e6, r1, r2, r3, r4, r5, r6, r7, r8, r9, r10, r11, r12, r13, r14, r15, r16, r17, hwk, hso, hrn, hnu, hpt, hrg, hbx, hor, hsa, hsb, hsc, hsn, hwz, hth, hla, hli, hlt, hpr, hby, htp, hrm, hhd, hlr, hK⟩ := hr
  exact hrg
theorem RR_hbx {F : Nat} {s : Nat → Nat} {J K : j_M} (hr : RR F s J K) : R_bx (s 1) (s 7) (vw 43 100 J) (J 197) := by
  obtain ⟨a0, b0, c0, a1, b1, c1, a2, b2, c2, a3, b3, c3, d3, a4, b4, c4, a5, b5, c5, a6, b6, c6, a7, b7, c7, a8, b8, c8, a9, b9, c9, a10, b10, c10, a11, b11, c11, a12, a15, c15, a14, b14, c14, e1, e2, e3, e4, e5, e6, r1, r2, r3, r4, r5, r6, r7, r8, r9, r10, r11, r12, r13, r14, r15, r16, r17, hwk, hso, hrn, hnu, hpt, hrg, hbx, hor, hsa, hsb, hsc, hsn, hwz, hth, hla, hli, hlt, hpr, hby, htp, hrm, hhd, hlr, hK⟩ := hr
  exact hbx
theorem RR_hor {F : Nat} {s : Nat → Nat} {J K : j_M} (hr : RR F s J K) : R_or (s 1) (s 8) (J 199) := by
  obtain ⟨a0, b0, c0, a1, b1, c1, a2, b2, c2, a3, b3, c3, d3, a4, b4, c4, a5, b5, c5, a6, b6, c6, a7, b7, c7, a8, b8, c8, a9, b9, c9, a10, b10, c10, a11, b11, c11, a12, a15, c15, a14, b14, c14, e1, e2, e3, e4, e5, e6, r1, r2, r3, r4, r5, r6, r7, r8, r9, r10, r11, r12, r13, r14, r15, r16, r17, hwk, hso, hrn, hnu, hpt, hrg, hbx, hor, hsa, hsb, hsc, hsn, hwz, hth, hla, hli, hlt, hpr, hby, htp, hrm, hhd, hlr, hK⟩ := hr
  exact hor
theorem RR_hsa {F : Nat} {s : Nat → Nat} {J K : j_M} (hr : RR F s J K) : R_sa (s 1) (s 12) (s 15) (vw 43 100 J) (J 144) (J 145) (J 146) (J 147) (K 233) := by
  obtain ⟨a0, b0, c0, a1, b1, c1, a2, b2, c2, a3, b3, c3, d3, a4, b4, c4, a5, b5, c5, a6, b6, c6, a7, b7, c7, a8, b8, c8, a9, b9, c9, a10, b10, c10, a11, b11, c11, a12, a15, c15, a14, b14, c14, e1, e2, e3, e4, e5, e6, r1, r2, r3, r4, r5, r6, r7, r8, r9, r10, r11, r12, r13, r14, r15, r16, r17, hwk, hso, hrn, hnu, hpt, hrg, hbx, hor, hsa, hsb, hsc, hsn, hwz, hth, hla, hli, hlt, hpr, hby, htp, hrm, hhd, hlr, hK⟩ := hr
  exact hsa
theorem RR_hsb {F : Nat} {s : Nat → Nat} {J K : j_M} (hr : RR F s J K) : R_sb (s 1) (s 12) (s 15) (vw 43 100 J) (J 144) (J 146) (J 147) := by
  obtain ⟨a0, b0, c0, a1, b1, c1, a2, b2, c2, a3, b3, c3, d3, a4, b4, c4, a5, b5, c5, a6, b6, c6, a7, b7, c7, a8, b8, c8, a9, b9, c9, a10, b10, c10, a11, b11, c11, a12, a15, c15, a14, b14, c14, e1, e2, e3, e4, e5, e6, r1, r2, r3, r4, r5, r6, r7, r8, r9, r10, r11, r12, r13, r14, r15, r16, r17, hwk, hso, hrn, hnu, hpt, hrg, hbx, hor, hsa, hsb, hsc, hsn, hwz, hth, hla, hli, hlt, hpr, hby, htp, hrm, hhd, hlr, hK⟩ := hr
  exact hsb
theorem RR_hsc {F : Nat} {s : Nat → Nat} {J K : j_M} (hr : RR F s J K) : R_sc (s 1) (s 12) (vw 43 100 J) (J 144) (J 145) (J 147) := by
  obtain ⟨a0, b0, c0, a1, b1, c1, a2, b2, c2, a3, b3, c3, d3, a4, b4, c4, a5, b5, c5, a6, b6, c6, a7, b7, c7, a8, b8, c8, a9, b9, c9, a10, b10, c10, a11, b11, c11, a12, a15, c15, a14, b14, c14, e1, e2, e3, e4, e5, e6, r1, r2, r3, r4, r5, r6, r7, r8, r9, r10, r11, r12, r13, r14, r15, r16, r17, hwk, hso, hrn, hnu, hpt, hrg, hbx, hor, hsa, hsb, hsc, hsn, hwz, hth, hla, hli, hlt, hpr, hby, htp, hrm, hhd, hlr, hK⟩ := hr
  exact hsc
theorem RR_hsn {F : Nat} {s : Nat → Nat} {J K : j_M} (hr : RR F s J K) : R_sn (s 1) (s 12) (s 13) (vw 43 100 J) (J 3) := by
  obtain ⟨a0, b0, c0, a1, b1, c1, a2, b2, c2, a3, b3, c3, d3, a4, b4, c4, a5, b5, c5, a6, b6, c6, a7, b7, c7, a8, b8, c8, a9, b9, c9, a10, b10, c10, a11, b11, c11, a12, a15, c15, a14, b14, c14, e1, e2, e3, e4, e5, e6, r1, r2, r3, r4, r5, r6, r7, r8, r9, r10, r11, r12, r13, r14, r15, r16, r17, hwk, hso, hrn, hnu, hpt, hrg, hbx, hor, hsa, hsb, hsc, hsn, hwz, hth, hla, hli, hlt, hpr, hby, htp, hrm, hhd, hlr, hK⟩ := hr
  exact hsn
theorem RR_hwz {F : Nat} {s : Nat → Nat} {J K : j_M} (hr : RR F s J K) : R_wz (s 1) (s 2) (K 233) := by
  obtain ⟨a0, b0, c0, a1, b1, c1, a2, b2, c2, a3, b3, c3, d3, a4, b4, c4, a5, b5, c5, a6, b6, c6, a7, b7, c7, a8, b8, c8, a9, b9, c9, a10, b10, c10, a11, b11, c11, a12, a15, c15, a14, b14, c14, e1, e2, e3, e4, e5, e6, r1, r2, r3, r4, r5, r6, r7, r8, r9, r10, r11, r12, r13, r14, r15, r16, r17, hwk, hso, hrn, hnu, hpt, hrg, hbx, hor, hsa, hsb, hsc, hsn, hwz, hth, hla, hli, hlt, hpr, hby, htp, hrm, hhd, hlr, hK⟩ := hr
  exact hwz
theorem RR_hth {F : Nat} {s : Nat → Nat} {J K : j_M} (hr : RR F s J K) : R_th (s 0) (s 2) (s 11) (J 148) (J 149) := by
  obtain ⟨a0, b0, c0, a1, b1, c1, a2, b2, c2, a3, b3, c3, d3, a4, b4, c4, a5, b5, c5, a6, b6, c6, a7, b7, c7, a8, b8, c8, a9, b9, c9, a10, b10, c10, a11, b11, c11, a12, a15, c15, a14, b14, c14, e1, e2, e3, e4, e5, e6, r1, r2, r3, r4, r5, r6, r7, r8, r9, r10, r11, r12, r13, r14, r15, r16, r17, hwk, hso, hrn, hnu, hpt, hrg, hbx, hor, hsa, hsb, hsc, hsn, hwz, hth, hla, hli, hlt, hpr, hby, htp, hrm, hhd, hlr, hK⟩ := hr
  exact hth
theorem RR_hla {F : Nat} {s : Nat → Nat} {J K : j_M} (hr : RR F s J K) : R_la (s 5) (s 6) (vw 154 40 J) (K 235) (K 236) (K 237) := by
  obtain ⟨a0, b0, c0, a1, b1, c1, a2, b2, c2, a3, b3, c3, d3, a4, b4, c4, a5, b5, c5, a6, b6, c6, a7, b7, c7, a8, b8, c8, a9, b9, c9, a10, b10, c10, a11, b11, c11, a12, a15, c15, a14, b14, c14, e1, e2, e3, e4, e5, e6, r1, r2, r3, r4, r5, r6, r7, r8, r9, r10, r11, r12, r13, r14, r15, r16, r17, hwk, hso, hrn, hnu, hpt, hrg, hbx, hor, hsa, hsb, hsc, hsn, hwz, hth, hla, hli, hlt, hpr, hby, htp, hrm, hhd, hlr, hK⟩ := hr
  exact hla
theorem RR_hli {F : Nat} {s : Nat → Nat} {J K : j_M} (hr : RR F s J K) : R_li (s 5) (J 152) (K 239) := by
  obtain ⟨a0, b0, c0, a1, b1, c1, a2, b2, c2, a3, b3, c3, d3, a4, b4, c4, a5, b5, c5, a6, b6, c6, a7, b7, c7, a8, b8, c8, a9, b9, c9, a10, b10, c10, a11, b11, c11, a12, a15, c15, a14, b14, c14, e1, e2, e3, e4, e5, e6, r1, r2, r3, r4, r5, r6, r7, r8, r9, r10, r11, r12, r13, r14, r15, r16, r17, hwk, hso, hrn, hnu, hpt, hrg, hbx, hor, hsa, hsb, hsc, hsn, hwz, hth, hla, hli, hlt, hpr, hby, htp, hrm, hhd, hlr, hK⟩ := hr
  exact hli
theorem RR_hlt {F : Nat} {s : Nat → Nat} {J K : j_M} (hr : RR F s J K) : R_lt (s 2) (J 150 2) (K 215 36) (K 215 37) := by
  obtain ⟨a0, b0, c0, a1, b1, c1, a2, b2, c2, a3, b3, c3, d3, a4, b4, c4, a5, b5, c5, a6, b6, c6, a7, b7, c7, a8, b8, c8, a9, b9, c9, a10, b10, c10, a11, b11, c11, a12, a15, c15, a14, b14, c14, e1, e2, e3, e4, e5, e6, r1, r2, r3, r4, r5, r6, r7, r8, r9, r10, r11, r12, r13, r14, r15, r16, r17, hwk, hso, hrn, hnu, hpt, hrg, hbx, hor, hsa, hsb, hsc, hsn, hwz, hth, hla, hli, hlt, hpr, hby, htp, hrm, hhd, hlr, hK⟩ := hr
  exact hlt
theorem RR_hpr {F : Nat} {s : Nat → Nat} {J K : j_M} (hr : RR F s J K) : R_pr F (s 9) (J 203) (J 204) (K 249) (K 250) (K 251) := by
  obtain ⟨a0, b0, c0, a1, b1, c1, a2, b2, c2, a3, b3, c3, d3, a4, b4, c4, a5, b5, c5, a6, b6, c6, a7, b7, c7, a8, b8, c8, a9, b9, c9, a10, b10, c10, a11, b11, c11, a12, a15, c15, a14, b14, c14, e1, e2, e3, e4, e5, e6, r1, r2, r3, r4, r5, r6, r7, r8, r9, r10, r11, r12, r13, r14, r15, r16, r17, hwk, hso, hrn, hnu, hpt, hrg, hbx, hor, hsa, hsb, hsc, hsn, hwz, hth, hla, hli, hlt, hpr, hby, htp, hrm, hhd, hlr, hK⟩ := hr
  exact hpr
theorem RR_hby {F : Nat} {s : Nat → Nat} {J K : j_M} (hr : RR F s J K) : R_by (J 203) := by
  obtain ⟨a0, b0, c0, a1, b1, c1, a2, b2, c2, a3, b3, c3, d3, a4, b4, c4, a5, b5, c5, a6, b6, c6, a7, b7, c7, a8, b8, c8, a9, b9, c9, a10, b10, c10, a11, b11, c11, a12, a15, c15, a14, b14, c14, e1, e2, e3, e4, e5, e6, r1, r2, r3, r4, r5, r6, r7, r8, r9, r10, r11, r12, r13, r14, r15, r16, r17, hwk, hso, hrn, hnu, hpt, hrg, hbx, hor, hsa, hsb, hsc, hsn, hwz, hth, hla, hli, hlt, hpr, hby, htp, hrm, hhd, hlr, hK⟩ := hr
  exact hby
theorem RR_htp {F : Nat} {s : Nat → Nat} {J K : j_M} (hr : RR F s J K) : R_tp (s 9) (s 10) (J 203) (K 245) := by
  obtain ⟨a0, b0, c0, a1, b1, c1, a2, b2, c2, a3, b3, c3, d3, a4, b4, c4, a5, b5, c5, a6, b6, c6, a7, b7, c7, a8, b8, c8, a9, b9, c9, a10, b10, c10, a11, b11, c11, a12, a15, c15, a14, b14, c14, e1, e2, e3, e4, e5, e6, r1, r2, r3, r4, r5, r6, r7, r8, r9, r10, r11, r12, r13, r14, r15, r16, r17, hwk, hso, hrn, hnu, hpt, hrg, hbx, hor, hsa, hsb, hsc, hsn, hwz, hth, hla, hli, hlt, hpr, hby, htp, hrm, hhd, hlr, hK⟩ := hr
  exact htp
theorem RR_hrm {F : Nat} {s : Nat → Nat} {J K : j_M} (hr : RR F s J K) : R_rm (s 0) (J 2) := by
  obtain ⟨a0, b0, c0, a1, b1, c1, a2, b2, c2, a3, b3, c3, d3, a4, b4, c4, a5, b5, c5, a6, b6, c6, a7, b7, c7, a8, b8, c8, a9, b9, c9, a10, b10, c10, a11, b11, c11, a12, a15, c15, a14, b14, c14, e1, e2, e3, e4, e5, e6, r1, r2, r3, r4, r5, r6, r7, r8, r9, r10, r11, r12, r13, r14, r15, r16, r17, hwk, hso, hrn, hnu, hpt, hrg, hbx, hor, hsa, hsb, hsc, hsn, hwz, hth, hla, hli, hlt, hpr, hby, htp, hrm, hhd, hlr, hK⟩ := hr
  exact hrm
theorem RR_hhd {F : Nat} {s : Nat → Nat} {J K : j_M} (hr : RR F s J K) : R_hd (s 1) (vw 43 100 J) := by
  obtain ⟨a0, b0, c0, a1, b1, c1, a2, b2, c2, a3, b3, c3, d3, a4, b4, c4, a5, b5, c5, a6, b6, c6, a7, b7, c7, a8, b8, c8, a9, b9, c9, a10, b10, c10, a11, b11, c11, a12, a15, c15, a14, b14, c14, e1, e2, e3, e4, e5, e6, r1, r2, r3, r4, r5, r6, r7, r8, r9, r10, r11, r12, r13, r14, r15, r16, r17, hwk, hso, hrn, hnu, hpt, hrg, hbx, hor, hsa, hsb, hsc, hsn, hwz, hth, hla, hli, hlt, hpr, hby, htp, hrm, hhd, hlr, hK⟩ := hr
  exact hhd
theorem RR_hlr {F : Nat} {s : Nat → Nat} {J K : j_M} (hr : RR F s J K) : R_lr (s 3) (J 213) := by
  obtain ⟨a0, b0, c0, a1, b1, c1, a2, b2, c2, a3, b3, c3, d3, a4, b4, c4, a5, b5, c5, a6, b6, c6, a7, b7, c7, a8, b8, c8, a9, b9, c9, a10, b10, c10, a11, b11, c11, a12, a15, c15, a14, b14, c14, e1, e2, e3, e4, e5, e6, r1, r2, r3, r4, r5, r6, r7, r8, r9, r10, r11, r12, r13, r14, r15, r16, r17, hwk, hso, hrn, hnu, hpt, hrg, hbx, hor, hsa, hsb, hsc, hsn, hwz, hth, hla, hli, hlt, hpr, hby, htp, hrm, hhd, hlr, hK⟩ := hr
  exact hlr
theorem RR_hK {F : Nat} {s : Nat → Nat} {J K : j_M} (hr : RR F s J K) : s 13 ≤ 512 := by
  obtain ⟨a0, b0, c0, a1, b1, c1, a2, b2, c2, a3, b3, c3, d3, a4, b4, c4, a5, b5, c5, a6, b6, c6, a7, b7, c7, a8, b8, c8, a9, b9, c9, a10, b10, c10, a11, b11, c11, a12, a15, c15, a14, b14, c14, e1, e2, e3, e4, e5, e6, r1, r2, r3, r4, r5, r6, r7, r8, r9, r10, r11, r12, r13, r14, r15, r16, r17, hwk, hso, hrn, hnu, hpt, hrg, hbx, hor, hsa, hsb, hsc, hsn, hwz, hth, hla, hli, hlt, hpr, hby, htp, hrm, hhd, hlr, hK⟩ := hr
  exact hK
/-- between calls -/
def R1 (F : Nat) (s : Nat → Nat) (J K : j_M) : Prop := RR F s J K ∧ R_du (s 1) (s 2) (vw 43 100 J) ∧ s 15 = if s 2 = 0 then 0 else s 2 + 1
/-- what a pair of calls does -/
def OPQ (F : Nat) (s : Nat → Nat) (J0 K0 : j_M) (v : Int32) (J : j_M) (w : Int32) (K : j_M) : Prop := v = w ∧ frJ J0 J ∧ frK K0 K ∧ ∃ s', s' 13 = s 13 + 1 ∧ R1 F s' J K
def OP (F : Nat) (g m : j_M → Option (Int32 × j_M)) : Prop := ∀ s J K, s 13 < 512 → R1 F s J K → j_wp2 (g J) (m K) (OPQ F s J K)
