/-! lamps: light, best -/
theorem sum_lt {f g : Nat → Nat} {t : Nat} : ∀ {n : Nat}, (∀ p, p < n → f p ≤ g p) → t < n → f t < g t → p_sum f n < p_sum g n
  | 0, _, h, _ => absurd h (by omega)
  | n + 1, hle, ht, hlt => by
    rw [p_sum, p_sum]
    have h2 := hle n (by omega)
    by_cases e : t = n
    · subst e
      have : ∀ {m : Nat}, m ≤ t → p_sum f m ≤ p_sum g m := by
        intro m
        induction m with
        | zero => intro _; exact Nat.le_refl _
        | succ m ih =>
          intro hm
          have := ih (by omega)
          have := hle m (by omega)
          rw [p_sum, p_sum]
          omega
      have := this (Nat.le_refl t)
      omega
    · have := sum_lt (n := n) (fun p hp => hle p (by omega)) (by omega) hlt
      omega
theorem l_gap {nf nl : Nat} {A B L : Nat → Nat} {E : Nat → Nat → Nat} {a l t : Nat} (h : l_Dist nf A B L E) (hnl : nl ≤ 40) (hk : ∀ k, k < nf → A k < nl ∧ B k < nl ∧ L k ≤ 999) (ha : a < 40) (hl : l < 40) (h1 : E a l ≠ 10000000) (h2 : t < E a l) : ∃ x, x < 40 ∧ t < E a x ∧ E a x ≤ t + 999 := by
  obtain ⟨d1, d2, d3⟩ := h
  refine Classical.byContradiction (fun hno => ?_)
  have hno2 : ∀ x, x < 40 → ¬ (t < E a x ∧ E a x ≤ t + 999) := fun x hx z => hno ⟨x, hx, z⟩
  rcases (d2 a l ha hl).2 with e | e
  · exact h1 e
  · have q := e (fun x => if E a x ≤ t then E a x else 20000000) (fun k hkn => by
      have y1 := hk k hkn
      have y2 := d3 a ha k hkn
      have y3 := hno2 (A k) (by omega)
      have y4 := hno2 (B k) (by omega)
      have y5 := (d2 a (A k) ha (by omega)).1
      have y6 := (d2 a (B k) ha (by omega)).1
      (try dsimp only)
      by_cases c1 : E a (A k) ≤ t
      · rw [if_pos c1]
        by_cases c2 : E a (B k) ≤ t
        · rw [if_pos c2]; exact y2
        · exfalso; omega
      · rw [if_neg c1]
        by_cases c2 : E a (B k) ≤ t
        · exfalso; omega
        · rw [if_neg c2]; omega)
    have := d1 a ha
    have := (d2 a l ha hl).1
    rw [if_neg (by omega), if_pos (by omega)] at q
    omega
theorem l_bound {nf nl : Nat} {A B L : Nat → Nat} {E : Nat → Nat → Nat} (h : l_Dist nf A B L E) (hnl : nl ≤ 40) (hk : ∀ k, k < nf → A k < nl ∧ B k < nl ∧ L k ≤ 999) {a b : Nat} (ha : a < 40) (hb : b < 40) : E a b = 10000000 ∨ E a b ≤ 39960 := by
  by_cases e : E a b = 10000000
  · exact Or.inl e
  refine Or.inr (Nat.le_of_not_lt (fun hgt => ?_))
  have key : ∀ k, 999 * k < E a b → k + 1 ≤ p_sum (fun x => if E a x ≤ 999 * k then 1 else 0) 40 := by
    intro k
    induction k with
    | zero =>
      intro _
      have q := sum_lt (f := fun _ => 0) (g := fun x => if E a x ≤ 999 * 0 then 1 else 0) (t := a) (n := 40) (fun p _ => Nat.zero_le _) ha (by
        (try dsimp only)
        rw [if_pos (by rw [h.1 a ha]; omega)]; omega)
      omega
    | succ k ih =>
      intro hlt
      have q1 := ih (by omega)
      obtain ⟨x, x1, x2, x3⟩ := l_gap (t := 999 * k) h hnl hk ha hb e (by omega)
      have q := sum_lt (f := fun x => if E a x ≤ 999 * k then 1 else 0) (g := fun x => if E a x ≤ 999 * (k + 1) then 1 else 0) (t := x) (n := 40) (fun p _ => by
        (try dsimp only)
        by_cases c : E a p ≤ 999 * k
        · rw [if_pos c, if_pos (by omega)]; omega
        · rw [if_neg c]; omega) x1 (by
        (try dsimp only)
        rw [if_neg (by omega), if_pos (by omega)]; omega)
      omega
  have q1 := key 40 (by omega)
  have q2 := p_sum_le (f := fun x => if E a x ≤ 999 * 40 then 1 else 0) (B := 1) (n := 40) (fun p _ => by (try dsimp only); split <;> omega)
  omega
def p_mx (f : Nat → Nat) : Nat → Nat
  | 0 => 0
  | n + 1 => max (p_mx f n) (f n)
theorem mx_le {f : Nat → Nat} {C : Nat} : ∀ {n : Nat}, (∀ p, p < n → f p ≤ C) → p_mx f n ≤ C
  | 0, _ => Nat.zero_le _
  | n + 1, h => by
    have := mx_le (f := f) (C := C) (n := n) (fun p hp => h p (by omega))
    have := h n (by omega)
    rw [p_mx]; omega
def l_m (E : Nat → Nat → Nat) (a b l : Nat) : Nat := min (E a l) (E b l)
def l_lt (E : Nat → Nat → Nat) (a b l : Nat) : Nat := if l_m E a b l < 10000000 then l_m E a b l else 1000000
def l_w (E : Nat → Nat → Nat) (a b l : Nat) : Nat := if l_m E a b l < 10000000 then (l_m E a b l + 9) / 10 else 0
def l_d (E : Nat → Nat → Nat) (a b l : Nat) : Nat := if l_m E a b l < 10000000 then 0 else 1
def l_fg (nf nl : Nat) (A B L : Nat → Nat) (a b : Nat) (f : Nat → Nat) : Prop := (f a = 0 ∧ f b = 0) ∧ ∀ l, l < nl → f l ≤ 1000000 ∧ (f l = 1000000 ∨ l_Rch nf A B L a l (f l) ∨ l_Rch nf A B L b l (f l))
def l_ps (nl : Nat) (A B L f0 : Nat → Nat) (x3 : Int32) (f : Nat → Nat) (k : Nat) : Prop := (x3 = 0 ∧ (∀ p, p < nl → f p = f0 p) ∧ l_Pot k A B L f) ∨ (x3 = 1 ∧ p_sum f nl < p_sum f0 nl)
theorem l_relax {nf nl : Nat} {A B L : Nat → Nat} {a b u v len : Nat} {f : Nat → Nat} (h : l_fg nf nl A B L a b f) (ha : a < nl) (hb : b < nl) (hu : u < nl) (hv : v < nl) (he : ∀ g, l_Pot nf A B L g → g v ≤ g u + len) (hlt : f u + len < f v) : l_fg nf nl A B L a b (p_up f v (f u + len)) ∧ p_sum (p_up f v (f u + len)) nl < p_sum f nl := by
  obtain ⟨⟨h1, h2⟩, h3⟩ := h
  refine ⟨⟨⟨?_, ?_⟩, fun l hl => ?_⟩, ?_⟩
  · unfold p_up; rw [if_neg (fun z => by rw [← z, h1] at hlt; omega)]; exact h1
  · unfold p_up; rw [if_neg (fun z => by rw [← z, h2] at hlt; omega)]; exact h2
  · unfold p_up
    by_cases e : l = v
    · rw [if_pos e]
      have q1 := (h3 v hv).1
      refine ⟨by omega, Or.inr ?_⟩
      rcases (h3 u hu).2 with z | z | z
      · omega
      · refine Or.inl (fun g hg => ?_)
        have y1 := z g hg
        have y2 := he g hg
        rw [e]; omega
      · refine Or.inr (fun g hg => ?_)
        have y1 := z g hg
        have y2 := he g hg
        rw [e]; omega
    · rw [if_neg e]; exact h3 l hl
  · have := p_sum_up (f := f) (v := f u + len) (n := nl) (k := v) hv
    omega
def l_fu (nf nl : Nat) (A B L : Nat → Nat) (K : j_M) : Prop := ∀ k, k < nf → A k < nl ∧ B k < nl ∧ 1 ≤ L k ∧ L k ≤ 999 ∧ K 235 k = nI (A k) ∧ K 236 k = nI (B k) ∧ K 237 k = nI (L k)
theorem upd_far {g : Nat → Int32} {f : Nat → Nat} {nl v x : Nat} (h : ∀ p, p < nl → g p = nI (f p)) : ∀ p, p < nl → upd g v (nI x) p = nI (p_up f v x p) := fun p hp => by
  unfold upd p_up
  by_cases e : p = v
  · rw [if_pos e, if_pos e]
  · rw [if_neg e, if_neg e]; exact h p hp
theorem l_find49 {F nf nl a b : Nat} {A B L : Nat → Nat} {K : j_M} {Po : Int32 → j_M → Prop} {kb40 : Int32 → j_M → Option (Int32 × j_M)} (hF : 20000000 < F) (hnl : nl ≤ 40) (hnf : nf ≤ 80) (h30 : K 215 30 = nI nf) (hk : l_fu nf nl A B L K) (ha : a < nl) (hb : b < nl) (f0 : Nat → Nat)
    (hkk : ∀ (x3 : Int32) (g : Nat → Int32) (f : Nat → Nat), (∀ p, p < nl → g p = nI (f p)) → l_fg nf nl A B L a b f → l_ps nl A B L f0 x3 f nf → j_wpo (kb40 x3 (j_rw K 238 g)) Po)
    (g : Nat → Int32) (hg : ∀ p, p < nl → g p = nI (f0 p)) (hf : l_fg nf nl A B L a b f0) : j_wpo (f_M_find_49 F kb40 0 0 (j_rw K 238 g)) Po := by
  unfold f_M_find_49
  refine j_it_wp (Inv := fun r q => ∃ k x3 g f, k + r = nf ∧ q = (x3, nI k, j_rw K 238 g) ∧ (∀ p, p < nl → g p = nI (f p)) ∧ l_fg nf nl A B L a b f ∧ l_ps nl A B L f0 x3 f k) ?_ F nf _ (by omega) ⟨0, 0, g, f0, by omega, rfl, hg, hf, Or.inl ⟨rfl, fun _ _ => rfl, fun k hk => absurd hk (Nat.not_lt_zero _)⟩⟩
  intro r q again hq hag
  obtain ⟨k, x3, g, f, hr, rfl, hg, hf, hp⟩ := hq
  (try dsimp only)
  unfold f_M_find_49b
  have e30 : (j_rw K 238 g) 215 30 = nI nf := h30
  rw [e30]
  by_cases e : k = nf
  · subst e
    exact wpo_pos (nI_le (by omega) (by omega)) (hkk x3 g f hg hf hp)
  refine wpo_neg (nI_ge (by omega) (by omega)) ?_
  obtain ⟨k1, k2, k3, k4, k5, k6, k7⟩ := hk k (by omega)
  have o80 : j_ok (nI k) 80 = true := j_ok_nI (by omega) (by decide)
  have ou : j_ok (nI (A k)) 40 = true := j_ok_nI (by omega) (by decide)
  have ov : j_ok (nI (B k)) 40 = true := j_ok_nI (by omega) (by decide)
  have iu := j_ix_nI (show A k < 2 ^ 31 by omega)
  have iv := j_ix_nI (show B k < 2 ^ 31 by omega)
  have ik := j_ix_nI (show k < 2 ^ 31 by omega)
  have hs : ∀ p, p < nl → f0 p ≤ 1000000 → True := fun _ _ _ => trivial
  have nx : ∀ (x3 : Int32) (g : Nat → Int32) (f : Nat → Nat), (∀ p, p < nl → g p = nI (f p)) → l_fg nf nl A B L a b f → l_ps nl A B L f0 x3 f (k + 1) → j_wpo (f_M_find_174 F (fun x3 x4 I => again (x3, x4, I)) x3 (nI k) (j_rw K 238 g)) Po := by
    intro x3 g f y1 y2 y3
    unfold f_M_find_174
    rw [j_letE, nI_1]
    exact hag _ (r - 1) (by omega) ⟨k + 1, x3, g, f, by omega, rfl, y1, y2, y3⟩
  have key : ∀ (x3 : Int32) (g : Nat → Int32) (f : Nat → Nat), (∀ p, p < nl → g p = nI (f p)) → l_fg nf nl A B L a b f → ((x3 = 0 ∧ (∀ p, p < nl → f p = f0 p) ∧ l_Pot k A B L f ∧ f (B k) ≤ f (A k) + L k) ∨ (x3 = 1 ∧ p_sum f nl < p_sum f0 nl)) → j_wpo (f_M_find_125 F (fun x3 x4 I => again (x3, x4, I)) x3 (nI k) (nI (A k)) (nI (B k)) (j_rw K 238 g)) Po := by
    intro x3 g f y1 y2 y3
    unfold f_M_find_125
    simp only [o80, ou, ov, if_true, iu, iv, ik, rw_at, j_letE]
    simp (disch := decide) only [rw_ne]
    rw [k7, y1 _ k1, y1 _ k2, nI_add]
    have w1 := (y2.2 (A k) k1).1
    have w2 := (y2.2 (B k) k2).1
    refine wpo_ite (fun c => ?_) (fun c => ?_)
    · have c2 : f (A k) ≤ f (B k) + L k := (nI_leI (by omega) (by omega)).mp c
      refine nx x3 g f y1 y2 ?_
      rcases y3 with ⟨z1, z2, z3, z4⟩ | z
      · refine Or.inl ⟨z1, z2, fun k' hk' => ?_⟩
        by_cases e2 : k' = k
        · subst e2; exact ⟨z4, c2⟩
        · exact z3 k' (by omega)
      · exact Or.inr z
    · have c2 : f (B k) + L k < f (A k) := by
        rcases Nat.lt_or_ge (f (B k) + L k) (f (A k)) with z | z
        · exact z
        · exact absurd (nI_le z (by omega)) c
      rw [rw_wr]
      obtain ⟨t1, t2⟩ := l_relax y2 ha hb k2 k1 (fun g hg => (hg k (by omega)).2) c2
      refine nx 1 _ _ (upd_far y1) t1 (Or.inr ⟨rfl, ?_⟩)
      rcases y3 with ⟨z1, z2, z3, z4⟩ | ⟨z1, z2⟩
      · have := p_sum_congr (f := f) (g := f0) z2; omega
      · omega
  simp only [o80, if_true, ik, rw_at, j_letE]
  simp (disch := decide) only [rw_ne]
  rw [k5, k6, k7]
  simp only [ou, ov, if_true, iu, iv]
  rw [hg _ k1, hg _ k2, nI_add]
  have w1 := (hf.2 (A k) k1).1
  have w2 := (hf.2 (B k) k2).1
  refine wpo_ite (fun c => ?_) (fun c => ?_)
  · have c2 : f (B k) ≤ f (A k) + L k := (nI_leI (by omega) (by omega)).mp c
    refine key x3 g f hg hf ?_
    rcases hp with ⟨z1, z2, z3⟩ | z
    · exact Or.inl ⟨z1, z2, z3, c2⟩
    · exact Or.inr z
  · have c2 : f (A k) + L k < f (B k) := by
      rcases Nat.lt_or_ge (f (A k) + L k) (f (B k)) with z | z
      · exact z
      · exact absurd (nI_le z (by omega)) c
    rw [rw_wr]
    obtain ⟨t1, t2⟩ := l_relax hf ha hb k1 k2 (fun g hg => (hg k (by omega)).1) c2
    refine key 1 _ _ (upd_far hg) t1 (Or.inr ⟨rfl, ?_⟩)
    rcases hp with ⟨z1, z2, z3⟩ | ⟨z1, z2⟩
    · have := p_sum_congr (f := f) (g := f0) z2; omega
    · omega
theorem l_same {nf nl : Nat} {A B L : Nat → Nat} {E : Nat → Nat → Nat} {a b : Nat} {f : Nat → Nat} (h : l_Dist nf A B L E) (hnl : nl ≤ 40) (hk : ∀ k, k < nf → A k < nl ∧ B k < nl ∧ L k ≤ 999) (ha : a < nl) (hb : b < nl) (hf : l_fg nf nl A B L a b f) (hp : l_Pot nf A B L f) : ∀ l, l < nl → f l = l_lt E a b l := by
  intro l hl
  have ba := l_bound h hnl hk (show a < 40 by omega) (show l < 40 by omega)
  have bb := l_bound h hnl hk (show b < 40 by omega) (show l < 40 by omega)
  obtain ⟨d1, d2, d3⟩ := h
  obtain ⟨⟨f1, f2⟩, f3⟩ := hf
  have u1 : E a l ≠ 10000000 → f l ≤ E a l := fun z => by
    rcases (d2 a l (by omega) (by omega)).2 with e | e
    · exact absurd e z
    · have := e f hp; omega
  have u2 : E b l ≠ 10000000 → f l ≤ E b l := fun z => by
    rcases (d2 b l (by omega) (by omega)).2 with e | e
    · exact absurd e z
    · have := e f hp; omega
  have v0 := (f3 l hl).1
  have v1 : f l = 1000000 ∨ E a l ≤ f l ∨ E b l ≤ f l := by
    rcases (f3 l hl).2 with e | e | e
    · exact Or.inl e
    · have q := e _ (d3 a (by omega))
      have := d1 a (by omega)
      exact Or.inr (Or.inl (by omega))
    · have q := e _ (d3 b (by omega))
      have := d1 b (by omega)
      exact Or.inr (Or.inr (by omega))
  unfold l_lt l_m
  by_cases c1 : E a l = 10000000
  · by_cases c2 : E b l = 10000000
    · rw [if_neg (by omega)]; omega
    · have := u2 c2
      rw [if_pos (by omega)]; omega
  · have := u1 c1
    by_cases c2 : E b l = 10000000
    · rw [if_pos (by omega)]; omega
    · have := u2 c2
      rw [if_pos (by omega)]; omega
theorem wr_sw {I : j_M} {c k1 k2 : Nat} {a b v : Int32} (h : k1 ≠ k2) : j_wr (j_wr (j_wr I c k1 a) c k2 b) c k1 v = j_wr (j_wr I c k1 v) c k2 b := by
  funext x y
  simp only [j_wr_at]
  by_cases e1 : x = c ∧ y = k1
  · simp only [if_pos e1]
    rw [if_neg (by omega)]
  · simp only [if_neg e1]
theorem wr_ww {I : j_M} {c k : Nat} {a b : Int32} : j_wr (j_wr I c k a) c k b = j_wr I c k b := by
  funext x y
  simp only [j_wr_at]
  by_cases e1 : x = c ∧ y = k
  · simp only [if_pos e1]
  · simp only [if_neg e1]
abbrev k_fd (K : j_M) (g : Nat → Int32) (u v : Int32) : j_M := j_wr (j_wr (j_rw K 238 g) 215 38 u) 215 39 v
theorem l_find196 {F nl : Nat} {K : j_M} {g : Nat → Int32} {f : Nat → Nat} (hF : 20000000 < F) (hnl : nl ≤ 40) (h28 : K 215 28 = nI nl) (hg : ∀ p, p < nl → g p = nI (f p)) (hf : ∀ p, p < nl → f p ≤ 1000000 ∧ (f p = 1000000 ∨ f p < 100000)) : f_M_find_196 F 0 (k_fd K g 0 0) = some (0, k_fd K g (nI (p_mx (fun l => if f l < 1000000 then (f l + 9) / 10 else 0) nl)) (nI (p_sum (fun l => if f l < 1000000 then 0 else 1) nl))) := by
  unfold f_M_find_196
  refine j_it_run (r := some (0, k_fd K g (nI (p_mx (fun l => if f l < 1000000 then (f l + 9) / 10 else 0) nl)) (nI (p_sum (fun l => if f l < 1000000 then 0 else 1) nl)))) (fun i => (nI i, k_fd K g (nI (p_mx (fun l => if f l < 1000000 then (f l + 9) / 10 else 0) i)) (nI (p_sum (fun l => if f l < 1000000 then 0 else 1) i)))) nl (fun i hi again => ?_) (fun again => ?_) F 0 (by omega) (by omega)
  · have mb : p_mx (fun l => if f l < 1000000 then (f l + 9) / 10 else 0) i ≤ 10000 := mx_le (fun p hp => by
      have := hf p (by omega)
      (try dsimp only)
      by_cases c : f p < 1000000
      · rw [if_pos c]; omega
      · rw [if_neg c]; omega)
    rw [p_mx, p_sum]
    generalize p_mx (fun l => if f l < 1000000 then (f l + 9) / 10 else 0) i = M at mb ⊢
    generalize p_sum (fun l => if f l < 1000000 then 0 else 1) i = S
    (try dsimp only)
    unfold f_M_find_196b f_M_find_271 f_M_find_274
    have e1 : k_fd K g (nI M) (nI S) 215 28 = nI nl := h28
    have e2 : k_fd K g (nI M) (nI S) 238 = g := rfl
    have e3 : k_fd K g (nI M) (nI S) 215 38 = nI M := rfl
    have e4 : k_fd K g (nI M) (nI S) 215 39 = nI S := rfl
    simp only [e1, e2, e3, e4, j_letE, if_neg (nI_ge hi (by omega)), j_ok_nI (show i < 40 by omega) (show 40 < 2 ^ 31 by decide), if_true, j_ix_nI (show i < 2 ^ 31 by omega), nI_1, hg i hi, if_neg (show ¬ (10 : Nat) = 0 by decide)]
    obtain ⟨q1, q2⟩ := hf i hi
    by_cases c : f i < 1000000
    · have c2 : f i < 100000 := by omega
      rw [if_pos (show nI _ < (1000000 : Int32) from nI_lt (b := 1000000) c (by decide)), d10 c2, if_pos c, if_pos c, wr_sw (by decide), wr_sw (by decide), Nat.add_zero]
      by_cases c3 : (f i + 9) / 10 ≤ M
      · rw [if_pos (nI_le c3 (by omega)), Nat.max_eq_left c3]; rfl
      · rw [if_neg (nI_ge (by omega) (by omega)), Nat.max_eq_right (by omega)]; rfl
    · rw [if_neg (show ¬ nI _ < (1000000 : Int32) from nI_nlt (b := 1000000) (by omega) (by omega)), if_neg c, if_neg c, wr_ww, Nat.max_eq_left (Nat.zero_le _)]
  · dsimp only
    unfold f_M_find_196b
    have e1 : ∀ u v, k_fd K g u v 215 28 = nI nl := fun _ _ => h28
    rw [e1, if_pos (nI_le (Nat.le_refl _) (by omega))]
theorem mx_congr {f g : Nat → Nat} : ∀ {n : Nat}, (∀ p, p < n → f p = g p) → p_mx f n = p_mx g n
  | 0, _ => rfl
  | n + 1, h => by rw [p_mx, p_mx, mx_congr (fun p hp => h p (by omega)), h n (by omega)]
theorem l_find {F nf nl a b : Nat} {A B L : Nat → Nat} {E : Nat → Nat → Nat} {x2 : Int32} {K : j_M} (hF : 50000000 < F) (hnl : nl ≤ 40) (hnf : nf ≤ 80) (h28 : K 215 28 = nI nl) (h30 : K 215 30 = nI nf) (hk : l_fu nf nl A B L K) (hD : l_Dist nf A B L E) (ha : a < nl) (hb : b < nl) (hx : ∀ l, l < nl → ((nI l = nI a ∨ nI l = x2) ↔ (l = a ∨ l = b))) : j_wpo (f_M_find F (nI a) x2 K) (fun _ K' => ∃ g, (∀ l, l < nl → g l = nI (l_lt E a b l)) ∧ K' = k_fd K g (nI (p_mx (l_w E a b) nl)) (nI (p_sum (l_d E a b) nl))) := by
  have hk3 : ∀ k, k < nf → A k < nl ∧ B k < nl ∧ L k ≤ 999 := fun k hkn => ⟨(hk k hkn).1, (hk k hkn).2.1, (hk k hkn).2.2.2.1⟩
  have hfin : ∀ (g : Nat → Int32) (f : Nat → Nat), (∀ p, p < nl → g p = nI (f p)) → l_fg nf nl A B L a b f → l_Pot nf A B L f → f_M_find_196 F 0 (k_fd K g 0 0) = some (0, k_fd K g (nI (p_mx (l_w E a b) nl)) (nI (p_sum (l_d E a b) nl))) ∧ ∀ l, l < nl → g l = nI (l_lt E a b l) := by
    intro g f y1 y2 y3
    have hs := l_same hD hnl hk3 ha hb y2 y3
    have hlt : ∀ l, l < nl → (l_m E a b l < 10000000 → l_m E a b l < 100000) := fun l hl c => by
      have ba := l_bound hD hnl hk3 (show a < 40 by omega) (show l < 40 by omega)
      have bb := l_bound hD hnl hk3 (show b < 40 by omega) (show l < 40 by omega)
      unfold l_m at c ⊢
      omega
    refine ⟨?_, fun l hl => by rw [y1 l hl, hs l hl]⟩
    rw [l_find196 (f := f) (by omega) hnl h28 y1 (fun p hp => ⟨(y2.2 p hp).1, ?_⟩)]
    · rw [mx_congr (f := fun l => if f l < 1000000 then (f l + 9) / 10 else 0) (g := l_w E a b) (fun p hp => ?_), p_sum_congr (f := fun l => if f l < 1000000 then 0 else 1) (g := l_d E a b) (fun p hp => ?_)]
      · rw [hs p hp]
        unfold l_d l_lt
        have := hlt p hp
        by_cases c : l_m E a b p < 10000000
        · rw [if_pos c, if_pos c, if_pos (by omega)]
        · rw [if_neg c, if_neg c, if_neg (by omega)]
      · rw [hs p hp]
        unfold l_w l_lt
        have := hlt p hp
        by_cases c : l_m E a b p < 10000000
        · rw [if_pos c, if_pos c, if_pos (by omega)]
        · rw [if_neg c, if_neg c, if_neg (by omega)]
    · rw [hs p hp]
      unfold l_lt
      have := hlt p hp
      by_cases c : l_m E a b p < 10000000
      · rw [if_pos c]; omega
      · rw [if_neg c]; omega
  have h40 : ∀ (g : Nat → Int32) (f : Nat → Nat), (∀ p, p < nl → g p = nI (f p)) → l_fg nf nl A B L a b f → j_wpo (f_M_find_40 F 1 (j_rw K 238 g)) (fun _ K' => ∃ g, (∀ l, l < nl → g l = nI (l_lt E a b l)) ∧ K' = k_fd K g (nI (p_mx (l_w E a b) nl)) (nI (p_sum (l_d E a b) nl))) := by
    intro g f y1 y2
    unfold f_M_find_40
    have hs : p_sum f nl ≤ nl * 1000000 := p_sum_le (fun p hp => (y2.2 p hp).1)
    have hs2 : nl * 1000000 ≤ 40 * 1000000 := Nat.mul_le_mul_right _ hnl
    refine j_it_wp (Inv := fun r (q : Int32 × j_M) => ∃ x3 g f, q = (x3, j_rw K 238 g) ∧ (∀ p, p < nl → g p = nI (f p)) ∧ l_fg nf nl A B L a b f ∧ ((x3 = 1 ∧ p_sum f nl < r) ∨ (x3 = 0 ∧ l_Pot nf A B L f))) ?_ F (p_sum f nl + 1) _ (by omega) ⟨1, g, f, rfl, y1, y2, Or.inl ⟨rfl, by omega⟩⟩
    intro r q again hq hag
    obtain ⟨x3, g, f, rfl, y1, y2, hx3⟩ := hq
    (try dsimp only)
    unfold f_M_find_40b
    refine wpo_ite (fun h => ?_) (fun h => ?_)
    · rcases hx3 with hx3 | hx3
      · rw [hx3.1] at h; exact absurd h (by decide)
      · simp only [j_letE]
        obtain ⟨z1, z2⟩ := hfin g f y1 y2 hx3.2
        exact ⟨_, _, z1, g, z2, rfl⟩
    · have hr : p_sum f nl < r := by
        rcases hx3 with hx3 | hx3
        · exact hx3.2
        · exact absurd hx3.1 h
      refine l_find49 (by omega) hnl hnf h30 hk ha hb f (fun x3 g1 f1 q1 q2 q3 => ?_) g y1 y2
      rcases q3 with ⟨p1, p2, p3⟩ | ⟨p1, p2⟩
      · exact hag (x3, j_rw K 238 g1) (r - 1) (by omega) ⟨x3, g1, f1, rfl, q1, q2, Or.inr ⟨p1, p3⟩⟩
      · exact hag (x3, j_rw K 238 g1) (r - 1) (by omega) ⟨x3, g1, f1, rfl, q1, q2, Or.inl ⟨p1, by omega⟩⟩
  unfold f_M_find f_M_find_2
  refine j_it_wp (Inv := fun r q => ∃ i g, i + r = nl ∧ q = (nI a, x2, nI i, j_rw K 238 g) ∧ ∀ p, p < i → g p = nI (if p = a ∨ p = b then 0 else 1000000)) ?_ F nl _ (by omega) ⟨0, K 238, by omega, by rw [rw_self]; rfl, fun p hp => absurd hp (Nat.not_lt_zero _)⟩
  intro r q again hq hag
  obtain ⟨i, g, hr, rfl, hp⟩ := hq
  (try dsimp only)
  unfold f_M_find_2b
  have e28 : (j_rw K 238 g) 215 28 = nI nl := h28
  rw [e28]
  by_cases e : i = nl
  · subst e
    refine wpo_pos (nI_le (by omega) (by omega)) (h40 g (fun p => if p = a ∨ p = b then 0 else 1000000) hp ⟨⟨if_pos (Or.inl rfl), if_pos (Or.inr rfl)⟩, fun l hl => ?_⟩)
    dsimp only
    by_cases c : l = a ∨ l = b
    · rw [if_pos c]
      refine ⟨by omega, Or.inr ?_⟩
      rcases c with rfl | rfl
      · exact Or.inl (fun g hg => by omega)
      · exact Or.inr (fun g hg => by omega)
    · rw [if_neg c]; exact ⟨by omega, Or.inl rfl⟩
  · refine wpo_neg (nI_ge (by omega) (by omega)) ?_
    have key : ∀ v : Int32, v = nI (if i = a ∨ i = b then 0 else 1000000) → j_wpo (f_M_find_31 F (fun x1 x2 x3 I => again (x1, x2, x3, I)) (nI a) x2 (nI i) (nI i) v (j_rw K 238 g)) (fun _ K' => ∃ g, (∀ l, l < nl → g l = nI (l_lt E a b l)) ∧ K' = k_fd K g (nI (p_mx (l_w E a b) nl)) (nI (p_sum (l_d E a b) nl))) := by
      intro v hv
      unfold f_M_find_31
      refine wpo_pos (j_ok_nI (by omega) (by decide)) ?_
      simp only [j_letE, nI_1, j_ix_nI (show i < 2 ^ 31 by omega), rw_wr]
      refine hag _ (r - 1) (by omega) ⟨i + 1, _, by omega, rfl, fun p hp2 => ?_⟩
      unfold upd
      by_cases e2 : p = i
      · rw [if_pos e2, hv, e2]
      · rw [if_neg e2]; exact hp p (by omega)
    unfold f_M_find_25
    have hxi := hx i (by omega)
    refine wpo_ite (fun c => ?_) (fun c => wpo_ite (fun c2 => ?_) (fun c2 => ?_))
    · refine key 0 ?_
      rw [if_pos (hxi.mp (Or.inl c))]; rfl
    · refine key 0 ?_
      rw [if_pos (hxi.mp (Or.inr c2))]; rfl
    · refine key 1000000 ?_
      rw [if_neg (fun z => (hxi.mpr z).elim c c2)]; rfl
def l_sc (E : Nat → Nat → Nat) (a b l : Nat) : Int32 := if l_m E a b l < 10000000 then nI (l_w E a b l) else -1
theorem e_second {F a b l : Nat} {E : Nat → Nat → Nat} {J : j_M} (hE : l_rows J E) (ha : a < 40) (hb : b < 40) (hl : l < 40) (hbd : ∀ x, x < 40 → E x l = 10000000 ∨ E x l ≤ 39960) : f_La_secondOf F (nI l) (nI a) (nI b) J = some (l_sc E a b l, J) := by
  unfold f_La_secondOf
  have ba := hbd a ha
  have bb := hbd b hb
  simp only [j_ok_nI ha (show 40 < 2 ^ 31 by decide), j_ok_nI hb (show 40 < 2 ^ 31 by decide), j_ok_nI hl (show 40 < 2 ^ 31 by decide), if_true, j_letE, j_ix_nI (show a < 2 ^ 31 by omega), j_ix_nI (show b < 2 ^ 31 by omega), j_ix_nI (show l < 2 ^ 31 by omega), hE a l ha hl, hE b l hb hl, if_neg (show ¬ (10 : Nat) = 0 by decide)]
  rw [nI_min (by omega) (by omega), Nat.min_comm]
  unfold l_sc l_w
  show (if nI (l_m E a b l) < 10000000 then _ else _) = _
  have hm : l_m E a b l < 10000000 → l_m E a b l < 100000 := by unfold l_m; omega
  have hm2 : l_m E a b l ≤ 10000000 := by unfold l_m; omega
  by_cases c : l_m E a b l < 10000000
  · rw [if_pos (show nI _ < (10000000 : Int32) from nI_lt (b := 10000000) c (by decide)), if_pos c, if_pos c]
    show some ((nI (l_m E a b l) + 9) / 10, J) = _
    rw [d10 (hm c)]
  · rw [if_neg (show ¬ nI _ < (10000000 : Int32) from nI_nlt (b := 10000000) (by omega) (by omega)), if_neg c]
theorem w_le {E : Nat → Nat → Nat} {a b l : Nat} (h1 : E a l = 10000000 ∨ E a l ≤ 39960) (h2 : E b l = 10000000 ∨ E b l ≤ 39960) : l_w E a b l ≤ 3996 := by
  unfold l_w l_m
  by_cases c : min (E a l) (E b l) < 10000000
  · rw [if_pos c]; omega
  · rw [if_neg c]; omega
theorem sc_max {E : Nat → Nat → Nat} {a b l M : Nat} (hM : M < 100000) (hw : l_w E a b l ≤ 3996) : (if nI M < l_sc E a b l then l_sc E a b l else nI M) = nI (max M (l_w E a b l)) := by
  unfold l_sc
  by_cases c : l_m E a b l < 10000000
  · rw [if_pos c]
    by_cases c2 : M < l_w E a b l
    · rw [if_pos (nI_lt c2 (by omega)), Nat.max_eq_right (by omega)]
    · rw [if_neg (nI_nlt (by omega) (by omega)), Nat.max_eq_left (by omega)]
  · have e : l_w E a b l = 0 := by unfold l_w; rw [if_neg c]
    rw [if_neg c, if_neg (fun z => absurd (Int32.lt_of_lt_of_le z (by decide : (-1 : Int32) ≤ 0)) (nI_pos (by omega))), e, Nat.max_eq_left (Nat.zero_le _)]
theorem l_kindle {F nl a b : Nat} {E : Nat → Nat → Nat} {x3 : Int32} {J : j_M} (hF : 20000000 < F) (hnl : nl ≤ 40) (h5 : J 150 0 = nI nl) (hE : l_rows J E) (ha : a < nl) (hb : b < nl) (hbd : ∀ x l, x < 40 → l < 40 → E x l = 10000000 ∨ E x l ≤ 39960) : ∃ g, (∀ l, l < nl → g l = l_sc E a b l) ∧ f_La_kindle F (nI a) (nI b) x3 J = some (nI (p_mx (l_w E a b) nl), j_wr (j_rw J 152 g) 150 2 x3) := by
  refine ⟨fun l => if l < nl then l_sc E a b l else J 152 l, fun l hl => if_pos hl, ?_⟩
  unfold f_La_kindle f_La_kindle_6
  have h0 : ((nI a, nI b, x3, (0 : Int32), (0 : Int32), J) : Int32 × Int32 × Int32 × Int32 × Int32 × j_M) = (nI a, nI b, x3, nI (p_mx (l_w E a b) 0), nI 0, j_rw J 152 (fun l => if l < 0 then l_sc E a b l else J 152 l)) := by
    rw [show (fun l => if l < 0 then l_sc E a b l else J 152 l) = J 152 from by funext m; exact if_neg (Nat.not_lt_zero m), rw_self]; rfl
  rw [h0]
  refine j_it_run (r := some (nI (p_mx (l_w E a b) nl), j_wr (j_rw J 152 (fun l => if l < nl then l_sc E a b l else J 152 l)) 150 2 x3)) (fun i => (nI a, nI b, x3, nI (p_mx (l_w E a b) i), nI i, j_rw J 152 (fun l => if l < i then l_sc E a b l else J 152 l))) nl (fun i hi again => ?_) (fun again => ?_) F 0 (by omega) (by omega)
  · dsimp only
    have hw : ∀ p, p < nl → l_w E a b p ≤ 3996 := fun p hp => w_le (hbd a p (by omega) (by omega)) (hbd b p (by omega) (by omega))
    have mb : p_mx (l_w E a b) i ≤ 3996 := mx_le (fun p hp => hw p (by omega))
    unfold f_La_kindle_6b
    have e5 : (j_rw J 152 (fun l => if l < i then l_sc E a b l else J 152 l)) 150 0 = nI nl := h5
    have hE2 : l_rows (j_rw J 152 (fun l => if l < i then l_sc E a b l else J 152 l)) E := fun x y hx hy => by rw [rw_ne (by omega)]; exact hE x y hx hy
    rw [e5, if_neg (nI_ge hi (by omega)), e_second hE2 (by omega) (by omega) (by omega) (fun x hx => hbd x i hx (by omega)), j_bdS]
    simp only [j_ok_nI (show i < 40 by omega) (show 40 < 2 ^ 31 by decide), if_true, j_letE, j_ix_nI (show i < 2 ^ 31 by omega), rw_wr, rw_at, upd_at, nI_1]
    rw [sc_max (by omega) (hw i hi), p_mx]
    congr 7
    funext l
    unfold upd
    by_cases e : l = i
    · rw [if_pos e, if_pos (by omega), e]
    · rw [if_neg e]
      (try dsimp only)
      by_cases e2 : l < i
      · rw [if_pos e2, if_pos (by omega)]
      · rw [if_neg e2, if_neg (by omega)]
  · dsimp only
    unfold f_La_kindle_6b
    have e5 : (j_rw J 152 (fun l => if l < nl then l_sc E a b l else J 152 l)) 150 0 = nI nl := h5
    rw [e5, if_pos (nI_le (Nat.le_refl _) (by omega))]
    rfl
theorem l_copy {F nl : Nat} {K : j_M} (hF : 20000000 < F) (hnl : nl ≤ 40) (h28 : K 215 28 = nI nl) : f_M_light_31 F 0 K = some (K 215 38, j_wr (j_wr (j_rw K 239 (fun l => if l < nl then K 238 l else K 239 l)) 215 36 1) 215 37 (K 215 2)) := by
  unfold f_M_light_31
  have h0 : ((0 : Int32), K) = (nI 0, j_rw K 239 (fun l => if l < 0 then K 238 l else K 239 l)) := by
    rw [show (fun l => if l < 0 then K 238 l else K 239 l) = K 239 from by funext m; exact if_neg (Nat.not_lt_zero m), rw_self]; rfl
  rw [h0]
  refine j_it_run (r := some (K 215 38, j_wr (j_wr (j_rw K 239 (fun l => if l < nl then K 238 l else K 239 l)) 215 36 1) 215 37 (K 215 2))) (fun i => (nI i, j_rw K 239 (fun l => if l < i then K 238 l else K 239 l))) nl (fun i hi again => ?_) (fun again => ?_) F 0 (by omega) (by omega)
  · dsimp only
    unfold f_M_light_31b
    have e5 : (j_rw K 239 (fun l => if l < i then K 238 l else K 239 l)) 215 28 = nI nl := h28
    have e6 : (j_rw K 239 (fun l => if l < i then K 238 l else K 239 l)) 238 = K 238 := rfl
    rw [e5, e6, if_neg (nI_ge hi (by omega))]
    simp only [j_ok_nI (show i < 40 by omega) (show 40 < 2 ^ 31 by decide), if_true, j_letE, j_ix_nI (show i < 2 ^ 31 by omega), rw_wr, nI_1]
    congr 3
    funext l
    unfold upd
    by_cases e : l = i
    · rw [if_pos e, if_pos (by omega), e]
    · rw [if_neg e]
      (try dsimp only)
      by_cases e2 : l < i
      · rw [if_pos e2, if_pos (by omega)]
      · rw [if_neg e2, if_neg (by omega)]
  · dsimp only
    unfold f_M_light_31b
    have e5 : (j_rw K 239 (fun l => if l < nl then K 238 l else K 239 l)) 215 28 = nI nl := h28
    rw [e5, if_pos (nI_le (Nat.le_refl _) (by omega))]
    rfl
