/-! price texts: whole texts -/
def t_A (nm : Nat → Int32) (out : List (Nat × Int32)) (x4 x5 : Int32) : Prop := (x5 = 0 ∧ x4 = 0 ∧ ∀ rest, y_says nm (out ++ rest) 0 [] = y_says nm rest 0 []) ∨ (x5 = 1 ∧ ∀ rest, y_says nm (out ++ rest) 0 [] = some x4)
theorem A_nil (nm : Nat → Int32) : t_A nm [] 0 0 := Or.inl ⟨rfl, rfl, fun _ => rfl⟩
theorem y_cl {nm : Nat → Int32} {o rest : List (Nat × Int32)} {v : Int32} (h : x_gv nm o v) (sk : Int32) : y_says nm (o ++ (3, 0) :: rest) sk [] = if sk = 0 then some v else y_says nm rest 0 [] := by
  rw [y_app (h []), y_cons]
  rfl
theorem y_te {nm : Nat → Int32} {o rest : List (Nat × Int32)} {v : Int32} (h : x_gv nm o v) (sk : Int32) : y_says nm (o ++ (2, 0) :: rest) sk [] = y_says nm rest (if v = 0 then 1 else 0) [] := by
  rw [y_app (h []), y_cons]
  rfl
/-- a clause without a test -/
theorem A_one {nm : Nat → Int32} {out o : List (Nat × Int32)} {x4 x5 v : Int32} (h : t_A nm out x4 x5) (hv : x_gv nm o v) : (x5 = 0 → t_A nm (out ++ o ++ [(3, 0)]) v 1) ∧ (x5 ≠ 0 → t_A nm (out ++ o ++ [(3, 0)]) x4 x5) := by
  have e : ∀ rest, out ++ o ++ [(3, 0)] ++ rest = out ++ (o ++ (3, 0) :: rest) := fun rest => by simp
  rcases h with ⟨h1, h2, h3⟩ | ⟨h1, h2⟩
  · refine ⟨fun _ => Or.inr ⟨rfl, fun rest => ?_⟩, fun z => absurd h1 z⟩
    rw [e, h3, y_cl hv, if_pos rfl]
  · refine ⟨fun z => absurd (h1.symm.trans z) (by decide), fun _ => Or.inr ⟨h1, fun rest => ?_⟩⟩
    rw [e, h2]
/-- a clause with a test -/
theorem A_two {nm : Nat → Int32} {out o1 o2 : List (Nat × Int32)} {x4 x5 v1 v2 : Int32} (h : t_A nm out x4 x5) (hv1 : x_gv nm o1 v1) (hv2 : x_gv nm o2 v2) : (v1 ≠ 0 → x5 = 0 → t_A nm (out ++ o1 ++ [(2, 0)] ++ o2 ++ [(3, 0)]) v2 1) ∧ (v1 = 0 ∨ x5 ≠ 0 → t_A nm (out ++ o1 ++ [(2, 0)] ++ o2 ++ [(3, 0)]) x4 x5) := by
  have e : ∀ rest, out ++ o1 ++ [(2, 0)] ++ o2 ++ [(3, 0)] ++ rest = out ++ (o1 ++ (2, 0) :: (o2 ++ (3, 0) :: rest)) := fun rest => by simp
  rcases h with ⟨h1, h2, h3⟩ | ⟨h1, h2⟩
  · refine ⟨fun z _ => Or.inr ⟨rfl, fun rest => ?_⟩, fun z => Or.inl ⟨h1, h2, fun rest => ?_⟩⟩
    · rw [e, h3, y_te hv1, y_cl hv2, if_neg z, if_pos rfl]
    · have z0 : v1 = 0 := by
        rcases z with z | z
        · exact z
        · exact absurd h1 z
      rw [e, h3, y_te hv1, y_cl hv2, if_pos z0, if_neg (by decide)]
  · refine ⟨fun _ z => absurd (h1.symm.trans z) (by decide), fun _ => Or.inr ⟨h1, fun rest => ?_⟩⟩
    rw [e, h2]
theorem A_end {nm : Nat → Int32} {out : List (Nat × Int32)} {x4 x5 : Int32} (h : t_A nm out x4 x5) : y_says nm out 0 [] = some x4 := by
  rcases h with ⟨h1, h2, h3⟩ | ⟨h1, h2⟩
  · have := h3 []
    rw [List.append_nil] at this
    rw [this, h2]; rfl
  · have := h2 []
    rw [List.append_nil] at this
    exact this
/-- what reading a text comes to, on both sides -/
def t_Q (F n o B : Nat) (b : Nat → Nat) (nm : Nat → Int32) (J0 K0 : j_M) (v : Int32) (J' : j_M) : Prop :=
  (c_rp J0 B n n (-1) J' ∧ ∃ out, out.length ≤ n + 1 ∧ y_says nm out 0 [] = some v ∧ ∀ f K, n < f → m_rp K0 o 0 [] [] K → ∃ K', m_rp K0 o n [] out K' ∧ j_it (m_lp F) f (nI o, 1, 0, K) = some (-1, K')) ∨
  (∃ p' pos, c_rp J0 B n p' (nI pos) J' ∧ pos ≤ n ∧ m_en F n o K0 0 1 0 [] [] pos)
/-- at the head of the class's loop over clauses -/
def t_S (F n o B : Nat) (b : Nat → Nat) (nm : Nat → Int32) (J0 K0 : j_M) (r i : Nat) (x4 x5 x6 : Int32) (J : j_M) : Prop :=
  (∃ p out, n - p < r ∧ x6 = 1 ∧ i ≤ p ∧ c_rp J0 B n p (-1) J ∧ p ≤ n ∧ out.length ≤ p ∧ m_go F n o K0 0 1 0 [] [] p 1 0 [] out ∧ t_A nm out x4 x5) ∨
  (x6 = 0 ∧ c_rp J0 B n n (-1) J ∧ ∃ out, out.length ≤ n + 1 ∧ y_says nm out 0 [] = some x4 ∧ ∀ f K, n < f → m_rp K0 o 0 [] [] K → ∃ K', m_rp K0 o n [] out K' ∧ j_it (m_lp F) f (nI o, 1, 0, K) = some (-1, K')) ∨
  (x6 = 0 ∧ ∃ p', c_rp J0 B n p' (-1) J ∧ p' < n ∧ m_en F n o K0 0 1 0 [] [] p') ∨
  (x6 = 0 ∧ ∃ p' pos, c_rp J0 B n p' (nI pos) J ∧ pos ≤ n ∧ m_en F n o K0 0 1 0 [] [] pos)
theorem e_127 {F n o B r i : Nat} {b : Nat → Nat} {nm : Nat → Int32} {J0 K0 J : j_M} {x4 x5 : Int32} (ct : c_tx n b nm B J0) (h : t_S F n o B b nm J0 K0 r i x4 x5 0 J) : j_wpo (f_Re_valueOf_127 F x4 J) (t_Q F n o B b nm J0 K0) := by
  have h120 := ct.1
  have hB := ct.2.2.1
  unfold f_Re_valueOf_127
  rcases h with ⟨p, out, _, z, _⟩ | ⟨-, h1, h2⟩ | ⟨-, p', h1, h2, h3⟩ | ⟨-, p', pos, h1, h2, h3⟩
  · exact absurd z (by decide)
  · have h1' := h1
    obtain ⟨h, rfl, y1, y2, y3, y4, y5⟩ := h1'
    rw [rw_at, y4, y5, if_pos (nI_le (Nat.le_refl _) (by omega))]
    exact wpo_some (Or.inl ⟨h1, h2⟩)
  · obtain ⟨J', e, r'⟩ := c_fail (F := F) h1
    obtain ⟨h, rfl, y1, y2, y3, y4, y5⟩ := h1
    rw [rw_at, y4, y5, if_neg (nI_ge (show B + p' < B + n by omega) (by omega)), e, j_bdS]
    exact wpo_some (Or.inr ⟨p', p', r', by omega, h3⟩)
  · refine wpo_ite (fun _ => wpo_some (Or.inr ⟨p', pos, h1, h2, h3⟩)) (fun _ => ?_)
    rw [c_failf (nI_nem (by omega)) h1, j_bdS]
    exact wpo_some (Or.inr ⟨p', pos, h1, h2, h3⟩)
/-- a clause ends -/
theorem e_113 {F n o B r i p : Nat} {b : Nat → Nat} {nm : Nat → Int32} {J0 K0 J : j_M} {x4 x5 t : Int32} {ps : List Nat} {out : List (Nat × Int32)} {kb : Int32 → Int32 → Int32 → Int32 → j_M → Option (Int32 × j_M)} {Po : Int32 → j_M → Prop} (hF : 20000000 < F) (ct : c_tx n b nm B J0) (tx : m_tx n b K0) (ho : o < 30) (hr : n - p < r) (hi : i < p) (hp : p ≤ n) (hJ : c_rp J0 B n p (-1) J) (hb : ps.length + out.length ≤ p) (hps : ∀ x, x ∈ ps → iop x) (hf : fol0 n b 0 ps p) (h58 : p < n → b p = 58 → t = 1) (hg : m_go F n o K0 0 1 0 [] [] p 0 t ps out) (hA : t_A nm (out ++ m_mp ps ++ [(3, 0)]) x4 x5) (hk : ∀ x6 J, t_S F n o B b nm J0 K0 (r - 1) (i + 1) x4 x5 x6 J → j_wpo (kb x4 x5 x6 (nI (i + 1)) J) Po) : j_wpo (f_Re_valueOf_113 F kb x4 x5 (nI i) J) Po := by
  have h120 := ct.1
  unfold f_Re_valueOf_113
  by_cases c : p < n ∧ b p = 59
  · obtain ⟨J', e, r'⟩ := c_take1 (F := F) ct c.1 c.2 hJ
    have e' : f_Re_take F 59 J = some (1, J') := e
    rw [e', j_bdS, j_letE, nI_1]
    refine hk 1 J' (Or.inl ⟨p + 1, _, by omega, rfl, by omega, r', by omega, ?_, go_tr hg (tk_semi hF tx ho c.1 hb hps c.2), hA⟩)
    simp; omega
  · have e : f_Re_take F 59 J = some (0, J) := c_take0 (c := 59) ct hp (by decide) c hJ
    rw [e, j_bdS, j_letE, nI_1]
    by_cases cn : p = n
    · subst cn
      refine hk 0 J (Or.inr (Or.inl ⟨rfl, hJ, _, ?_, A_end hA, fun f K hf2 hK => ?_⟩))
      · simp; omega
      · obtain ⟨f1, K1, a1, a2, a3⟩ := hg f K (by omega) hK
        obtain ⟨K2, b1, b2⟩ := tk_fin (t := t) hF tx ho hps hb f1 K1 a1 a2
        exact ⟨K2, b1, a3.trans b2⟩
    · have cp : p < n := by omega
      exact hk 0 J (Or.inr (Or.inr (Or.inl ⟨rfl, p, hJ, cp, go_en hg (tk_top hF tx ho cp hb hps hf (h58 cp) (fun z => c ⟨cp, z⟩))⟩)))
/-- a clause ends in a fault that stands, or is to come -/
theorem e_113b {F n o B r i : Nat} {b : Nat → Nat} {nm : Nat → Int32} {J0 K0 J : j_M} {x4 x5 : Int32} {kb : Int32 → Int32 → Int32 → Int32 → j_M → Option (Int32 × j_M)} {Po : Int32 → j_M → Prop} (ct : c_tx n b nm B J0) (h : (∃ p', c_rp J0 B n p' (-1) J ∧ p' < n ∧ dgt (b p') ∧ m_en F n o K0 0 1 0 [] [] p') ∨ (∃ p' pos, c_rp J0 B n p' (nI pos) J ∧ pos ≤ n ∧ m_en F n o K0 0 1 0 [] [] pos)) (hk : ∀ x6 J, t_S F n o B b nm J0 K0 r (i + 1) x4 x5 x6 J → j_wpo (kb x4 x5 x6 (nI (i + 1)) J) Po) : j_wpo (f_Re_valueOf_113 F kb x4 x5 (nI i) J) Po := by
  have h120 := ct.1
  unfold f_Re_valueOf_113
  rcases h with ⟨p', h1, h2, h3, h4⟩ | ⟨p', pos, h1, h2, h3⟩
  · have e : f_Re_take F 59 J = some (0, J) := c_take0 (c := 59) ct (by omega) (by decide) (fun z => (dgt_not h3).2.2.2.2.2 z.2) h1
    rw [e, j_bdS, j_letE, nI_1]
    exact hk 0 J (Or.inr (Or.inr (Or.inl ⟨rfl, p', h1, h2, h4⟩)))
  · have e : f_Re_take F 59 J = some (0, J) := c_takef (c := 59) (nI_nem (by omega)) (by decide) h1
    rw [e, j_bdS, j_letE, nI_1]
    exact hk 0 J (Or.inr (Or.inr (Or.inr ⟨rfl, p', pos, h1, h2, h3⟩)))
theorem e_96b {F n o B r i : Nat} {b : Nat → Nat} {nm : Nat → Int32} {J0 K0 J : j_M} {x4 x5 x8 x9 : Int32} {kb : Int32 → Int32 → Int32 → Int32 → j_M → Option (Int32 × j_M)} {Po : Int32 → j_M → Prop} (ct : c_tx n b nm B J0) (h : (∃ p', c_rp J0 B n p' (-1) J ∧ p' < n ∧ dgt (b p') ∧ m_en F n o K0 0 1 0 [] [] p') ∨ (∃ p' pos, c_rp J0 B n p' (nI pos) J ∧ pos ≤ n ∧ m_en F n o K0 0 1 0 [] [] pos)) (hk : ∀ x4 x5 x6 J, t_S F n o B b nm J0 K0 r (i + 1) x4 x5 x6 J → j_wpo (kb x4 x5 x6 (nI (i + 1)) J) Po) : j_wpo (f_Re_valueOf_96 F kb x4 x5 (nI i) x8 x9 J) Po := by
  unfold f_Re_valueOf_96
  exact wpo_ite (fun _ => e_113b ct h (hk _ _)) (fun _ => wpo_ite (fun _ => e_113b ct h (hk _ _)) (fun _ => e_113b ct h (hk _ _)))
theorem t_loop {F n o B : Nat} {b : Nat → Nat} {nm : Nat → Int32} {J0 K0 J : j_M} (hF : 20000000 < F) (ct : c_tx n b nm B J0) (tx : m_tx n b K0) (ho : o < 30) (hJ : c_rp J0 B n 0 (-1) J) : j_wpo (f_Re_valueOf_44 F 0 0 1 0 J) (t_Q F n o B b nm J0 K0) := by
  have h120 := ct.1
  unfold f_Re_valueOf_44
  have g0 : m_go F n o K0 0 1 0 [] [] 0 1 0 [] [] := fun f K hf hK => ⟨f, K, hf, hK, rfl⟩
  refine j_it_wp (Inv := fun r q => ∃ i x4 x5 x6 J, i ≤ 121 ∧ q = (x4, x5, x6, nI i, J) ∧ (x6 = 1 → i ≤ 120) ∧ t_S F n o B b nm J0 K0 r i x4 x5 x6 J) ?_ F (n + 1) _ (by omega) ⟨0, 0, 0, 1, J, by omega, rfl, fun _ => by omega, Or.inl ⟨0, [], by omega, rfl, by omega, hJ, by omega, by simp, g0, A_nil nm⟩⟩
  intro r q again hq hag
  obtain ⟨i, x4, x5, x6, J, hi, rfl, hi6, hS⟩ := hq
  dsimp only
  unfold f_Re_valueOf_44b
  by_cases c6 : x6 = 0
  · rw [if_pos c6]
    subst c6
    exact e_127 ct hS
  rw [if_neg c6]
  rcases hS with ⟨p, out, hr, e6, hip, hJ, hp, hout, hg, hA⟩ | ⟨z, _⟩ | ⟨z, _⟩ | ⟨z, _⟩
  · have hi120 := hi6 e6
    have sP : ∀ (out : List (Nat × Int32)) p, out.length ≤ p → s_P 0 0 p [] out := fun out p h => ⟨by simpa using h, fun w hw => absurd hw List.not_mem_nil, rfl, fun w W' hW => by cases hW⟩
    have nx : ∀ x4 x5 x6 J, t_S F n o B b nm J0 K0 (r - 1) (i + 1) x4 x5 x6 J → j_wpo (again (x4, x5, x6, nI (i + 1), J)) (t_Q F n o B b nm J0 K0) := fun x4 x5 x6 J hS => by
      refine hag _ (r - 1) (by omega) ⟨i + 1, x4, x5, x6, J, by omega, rfl, fun z => ?_, hS⟩
      rcases hS with ⟨p, out, y1, y2, y3, y4, y5, _⟩ | ⟨y, _⟩ | ⟨y, _⟩ | ⟨y, _⟩
      · omega
      · rw [y] at z; exact absurd z (by decide)
      · rw [y] at z; exact absurd z (by decide)
      · rw [y] at z; exact absurd z (by decide)
    have nxb : ∀ x4 x5 x6 J, t_S F n o B b nm J0 K0 (r - 1) (i + 1) x4 x5 x6 J → j_wpo (again (x4, x5, x6, nI (i + 1), J)) (t_Q F n o B b nm J0 K0) := nx
    rw [if_neg (show ¬ (120 : Int32) < nI i from nI_nlt (a := 120) hi120 (by decide))]
    unfold f_Re_expr
    refine wpo_bd (wpo_mono (s_main hF ct tx ho 8 0 60 rfl (by decide) p J hp hJ) ?_)
    rintro v1 J1 (⟨p1, ov, ps, r1, q1, q2, q3, q4, q5, q6, q7⟩ | ⟨p1, r1, q1, q2, q3, q4⟩ | ⟨p1, pos, r1, q1, q2⟩)
    · have hg1 := go_tr hg (q7 0 [] out (sP out p hout))
      rw [List.append_nil] at hg1
      have hps : ∀ x, x ∈ ps → iop x := fun x hx => (q5 x hx).1
      by_cases c58 : p1 < n ∧ b p1 = 58
      · obtain ⟨J2, e2, r2⟩ := c_take1 (F := F) ct c58.1 c58.2 r1
        have e2' : f_Re_take F 58 J1 = some (1, J2) := e2
        have hg2 := go_tr hg1 (tk_colon (ps := ps) (out := out ++ ov) hF tx ho c58.1 (by simp; omega) hps c58.2)
        rw [e2', j_bdS, if_neg (show ¬ (1 : Int32) = 0 by decide)]
        have ho2 : (out ++ ov ++ m_mp ps ++ [(2, 0)]).length ≤ p1 + 1 := by simp; omega
        have second : ∀ s0 : Int32, (s0 = 0 ∧ v1 = 0) ∨ (s0 = 1 ∧ v1 ≠ 0) → j_wpo (f_Re_valueOf_86 F (fun x4 x5 x6 x7 I => again (x4, x5, x6, x7, I)) x4 x5 (nI i) s0 J2) (t_Q F n o B b nm J0 K0) := by
          intro s0 hs0
          unfold f_Re_valueOf_86 f_Re_expr
          refine wpo_bd (wpo_mono (s_main hF ct tx ho 8 0 60 rfl (by decide) (p1 + 1) J2 (by omega) r2) ?_)
          rintro v2 J3 (⟨p2, ov2, ps2, r3, a1, a2, a3, a4, a5, a6, a7⟩ | ⟨p2, r3, a1, a2, a3, a4⟩ | ⟨p2, pos, r3, a1, a2⟩)
          · have hg3 := go_tr hg2 (a7 1 [] _ (sP _ (p1 + 1) ho2))
            rw [List.append_nil] at hg3
            have eo : out ++ ov ++ m_mp ps ++ [(2, 0)] ++ ov2 ++ m_mp ps2 ++ [(3, 0)] = out ++ (ov ++ m_mp ps) ++ [(2, 0)] ++ (ov2 ++ m_mp ps2) ++ [(3, 0)] := by simp
            obtain ⟨A1, A2⟩ := A_two hA q4 a4
            have fin : ∀ y4 y5 : Int32, t_A nm (out ++ (ov ++ m_mp ps) ++ [(2, 0)] ++ (ov2 ++ m_mp ps2) ++ [(3, 0)]) y4 y5 → j_wpo (f_Re_valueOf_113 F (fun x4 x5 x6 x7 I => again (x4, x5, x6, x7, I)) y4 y5 (nI i) J3) (t_Q F n o B b nm J0 K0) := fun y4 y5 hA2 => by
              refine e_113 (r := r) (p := p2) (t := 1) (ps := ps2) (out := out ++ ov ++ m_mp ps ++ [(2, 0)] ++ ov2) hF ct tx ho (by omega) (by omega) a2 r3 ?_ (fun x hx => (a5 x hx).1) a6 (fun _ _ => rfl) hg3 (by rw [eo]; exact hA2) (fun x6 J => nx y4 y5 x6 J)
              have := ho2
              simp at this ⊢
              omega
            unfold f_Re_valueOf_96
            rcases hs0 with ⟨rfl, z⟩ | ⟨rfl, z⟩
            · rw [if_pos rfl]
              exact fin _ _ (A2 (Or.inl z))
            · rw [if_neg (by decide)]
              refine wpo_ite (fun z5 => fin _ _ (A1 z z5)) (fun z5 => fin _ _ (A2 (Or.inr z5)))
          · exact e_96b ct (Or.inl ⟨p2, r3, a2, a3, go_en hg2 (a4 1 [] _ (sP _ (p1 + 1) ho2))⟩) nxb
          · exact e_96b ct (Or.inr ⟨p2, pos, r3, a1, go_en hg2 (a2 1 [] _ (sP _ (p1 + 1) ho2))⟩) nxb
        exact wpo_ite (fun z => second 0 (Or.inl ⟨rfl, z⟩)) (fun z => second 1 (Or.inr ⟨rfl, z⟩))
      · have e2 : f_Re_take F 58 J1 = some (0, J1) := c_take0 (c := 58) ct q2 (by decide) c58 r1
        rw [e2, j_bdS, if_pos (show (0 : Int32) = 0 from rfl)]
        obtain ⟨A1, A2⟩ := A_one hA q4
        have eo : out ++ ov ++ m_mp ps ++ [(3, 0)] = out ++ (ov ++ m_mp ps) ++ [(3, 0)] := by simp
        have fin : ∀ y4 y5 : Int32, t_A nm (out ++ (ov ++ m_mp ps) ++ [(3, 0)]) y4 y5 → j_wpo (f_Re_valueOf_113 F (fun x4 x5 x6 x7 I => again (x4, x5, x6, x7, I)) y4 y5 (nI i) J1) (t_Q F n o B b nm J0 K0) := fun y4 y5 hA2 => by
          refine e_113 (r := r) (p := p1) (t := 0) (ps := ps) (out := out ++ ov) hF ct tx ho (by omega) (by omega) q2 r1 ?_ hps q6 (fun z1 z2 => absurd ⟨z1, z2⟩ c58) hg1 (by rw [eo]; exact hA2) (fun x6 J => nx y4 y5 x6 J)
          simp; omega
        unfold f_Re_valueOf_96
        rw [if_neg (show ¬ (1 : Int32) = 0 by decide)]
        exact wpo_ite (fun z5 => fin _ _ (A1 z5)) (fun z5 => fin _ _ (A2 z5))
    · have e2 : f_Re_take F 58 J1 = some (0, J1) := c_take0 (c := 58) ct (by omega) (by decide) (fun z => (dgt_not q3).2.2.2.2.1 z.2) r1
      rw [e2, j_bdS, if_pos (show (0 : Int32) = 0 from rfl)]
      exact e_96b ct (Or.inl ⟨p1, r1, q2, q3, go_en hg (q4 0 [] out (sP out p hout))⟩) nxb
    · have e2 : f_Re_take F 58 J1 = some (0, J1) := c_takef (c := 58) (nI_nem (by omega)) (by decide) r1
      rw [e2, j_bdS, if_pos (show (0 : Int32) = 0 from rfl)]
      exact e_96b ct (Or.inr ⟨p1, pos, r1, q1, go_en hg (q2 0 [] out (sP out p hout))⟩) nxb
  · exact absurd z c6
  · exact absurd z c6
  · exact absurd z c6
theorem t_sim {F n o B : Nat} {b : Nat → Nat} {nm : Nat → Int32} {J K0 : j_M} (hF : 20000000 < F) (ct : c_tx n b nm B J) (tx : m_tx n b K0) (ho : o < 30) : j_wpo (f_Re_valueOf F (nI B) (nI n) J) (t_Q F n o B b nm J K0) := by
  have h120 := ct.1
  have hB := ct.2.2.1
  unfold f_Re_valueOf
  simp only [j_letE]
  rw [nI_add, if_neg (show ¬ (3720 : Int32) < nI (B + n) from nI_nlt (a := 3720) (by omega) (by decide)), wr_rw (J := J), rw_wr, rw_wr, rw_wr, rw_wr]
  refine t_loop hF ct tx ho ⟨_, rfl, upd_at _ _ _, ?_, ?_, ?_, ?_⟩
  · rw [upd_ne _ _ (by decide), upd_ne _ _ (by decide), upd_ne _ _ (by decide), upd_ne _ _ (by decide), upd_at]
  · rw [upd_ne _ _ (by decide), upd_ne _ _ (by decide), upd_ne _ _ (by decide), upd_at]
  · rw [upd_ne _ _ (by decide), upd_ne _ _ (by decide), upd_at]
  · rw [upd_ne _ _ (by decide), upd_at]; rfl
