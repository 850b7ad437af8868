/-! price texts: the class's reader; one operand -/
def c_rp (J0 : j_M) (B n p : Nat) (f : Int32) (J : j_M) : Prop := ∃ h, J = j_rw J0 208 h ∧ h 1 = f ∧ h 2 = nI 203 ∧ h 3 = nI B ∧ h 4 = nI (B + n) ∧ h 5 = nI (B + p)
def c_tx (n : Nat) (b : Nat → Nat) (nm : Nat → Int32) (B : Nat) (J0 : j_M) : Prop := n ≤ 120 ∧ (∀ k, b k < 256) ∧ B + 120 ≤ 3720 ∧ (∀ k, k < n → J0 203 (B + k) &&& 255 = nI (b k)) ∧ ∀ c, ixn c < 8 → J0 209 (ixn c) = nm c
def cnx (n : Nat) (b : Nat → Nat) (p : Nat) : Int32 := if p < n then nI (b p) else -1
theorem c_nx {F n B p : Nat} {b : Nat → Nat} {nm : Nat → Int32} {J0 J : j_M} (ct : c_tx n b nm B J0) (hp : p ≤ n) (h : c_rp J0 B n p (-1) J) : f_Re_next F J = some (cnx n b p, J) := by
  obtain ⟨h, rfl, h1, h2, h3, h4, h5⟩ := h
  obtain ⟨t1, t2, t3, t4, -⟩ := ct
  unfold f_Re_next cnx
  rw [rw_at, h1, h2, h4, h5, if_pos rfl]
  by_cases c : p < n
  · rw [if_pos (nI_lt (show B + p < B + n by omega) (by omega)), if_pos rfl, if_pos (j_ok_nI (show B + p < 3720 by omega) (by decide)), j_ix_nI (by omega), rw_ne (by decide), t4 p c, if_pos c]
  · rw [if_neg (nI_nlt (show B + n ≤ B + p by omega) (by omega)), if_neg c]
theorem c_nxf {F n B p : Nat} {f : Int32} {J0 J : j_M} (hf : f ≠ -1) (h : c_rp J0 B n p f J) : f_Re_next F J = some (-1, J) := by
  obtain ⟨h, rfl, h1, h2, h3, h4, h5⟩ := h
  unfold f_Re_next
  rw [rw_at, h1, if_neg hf]
theorem c_adv {n B p : Nat} {f : Int32} {J0 J : j_M} (h : c_rp J0 B n p f J) : c_rp J0 B n (p + 1) f (j_wr J 208 5 (J 208 5 + 1)) := by
  obtain ⟨h, rfl, h1, h2, h3, h4, h5⟩ := h
  rw [rw_at, rw_wr, h5, nI_1]
  exact ⟨_, rfl, by rw [upd_ne _ _ (by decide)]; exact h1, by rw [upd_ne _ _ (by decide)]; exact h2, by rw [upd_ne _ _ (by decide)]; exact h3, by rw [upd_ne _ _ (by decide)]; exact h4, by rw [upd_at]; rfl⟩
theorem c_take1 {F n B p c : Nat} {b : Nat → Nat} {nm : Nat → Int32} {J0 J : j_M} (ct : c_tx n b nm B J0) (hp : p < n) (hc : b p = c) (h : c_rp J0 B n p (-1) J) : ∃ J', f_Re_take F (nI c) J = some (1, J') ∧ c_rp J0 B n (p + 1) (-1) J' := by
  refine ⟨_, ?_, c_adv h⟩
  unfold f_Re_take
  rw [c_nx ct (by omega) h, j_bdS]
  unfold cnx
  rw [if_pos hp, hc, if_pos rfl, j_letE]
theorem c_take0 {F n B p c : Nat} {b : Nat → Nat} {nm : Nat → Int32} {J0 J : j_M} (ct : c_tx n b nm B J0) (hp : p ≤ n) (hcl : c < 256) (hc : ¬ (p < n ∧ b p = c)) (h : c_rp J0 B n p (-1) J) : f_Re_take F (nI c) J = some (0, J) := by
  unfold f_Re_take
  rw [c_nx ct hp h, j_bdS, if_neg]
  unfold cnx
  have := ct.2.1 p
  by_cases c2 : p < n
  · rw [if_pos c2]; exact nI_ne (fun z => hc ⟨c2, z⟩) (by omega) (by omega)
  · rw [if_neg c2]; exact fun z => nI_nem (by omega) z.symm
theorem c_takef {F n B p c : Nat} {f : Int32} {J0 J : j_M} (hf : f ≠ -1) (hcl : c < 256) (h : c_rp J0 B n p f J) : f_Re_take F (nI c) J = some (0, J) := by
  unfold f_Re_take
  rw [c_nxf hf h, j_bdS, if_neg (fun z => nI_nem (by omega) z.symm)]
theorem c_fail {F n B p : Nat} {J0 J : j_M} (h : c_rp J0 B n p (-1) J) : ∃ J', f_Re_fail F J = some (0, J') ∧ c_rp J0 B n p (nI p) J' := by
  obtain ⟨h, rfl, h1, h2, h3, h4, h5⟩ := h
  refine ⟨_, ?_, upd h 1 (nI p), rfl, by rw [upd_at], by rw [upd_ne _ _ (by decide)]; exact h2, by rw [upd_ne _ _ (by decide)]; exact h3, by rw [upd_ne _ _ (by decide)]; exact h4, by rw [upd_ne _ _ (by decide)]; exact h5⟩
  unfold f_Re_fail
  rw [rw_at, h1, if_pos rfl, h5, h3, pk_sub (show B ≤ B + p by omega), show B + p - B = p by omega, j_letE, rw_wr]
theorem c_failf {F n B p : Nat} {f : Int32} {J0 J : j_M} (hf : f ≠ -1) (h : c_rp J0 B n p f J) : f_Re_fail F J = some (0, J) := by
  obtain ⟨h, rfl, h1, h2, h3, h4, h5⟩ := h
  unfold f_Re_fail
  rw [rw_at, h1, if_neg hf]
theorem e_isd {F c : Nat} {J : j_M} (h : dgt c) : f_Re_isDigit F (nI c) J = some (1, J) := by
  unfold dgt at h
  unfold f_Re_isDigit
  rw [if_neg (show ¬ nI c < 48 from nI_nlt (b := 48) (by omega) (by omega)), if_neg (show ¬ (57 : Int32) < nI c from nI_nlt (a := 57) (by omega) (by decide))]
theorem e_isn {F c : Nat} {J : j_M} (hc : c < 256) (h : ¬ dgt c) : f_Re_isDigit F (nI c) J = some (0, J) := by
  unfold dgt at h
  unfold f_Re_isDigit
  by_cases c1 : c < 48
  · rw [if_pos (show nI c < 48 from nI_lt (b := 48) c1 (by decide))]
  · rw [if_neg (show ¬ nI c < 48 from nI_nlt (b := 48) (by omega) (by omega)), if_pos (show (57 : Int32) < nI c from nI_lt (a := 57) (by omega) (by omega))]
theorem e_ism {F : Nat} {J : j_M} : f_Re_isDigit F (-1) J = some (0, J) := rfl
theorem c_num {F n B p m : Nat} {b : Nat → Nat} {nm : Nat → Int32} {J0 J : j_M} (hF : 20000000 < F) (ct : c_tx n b nm B J0) (hm : d_m n b p m) (h : c_rp J0 B n p (-1) J) : ∃ J', f_Re_number F J = some (d_v b p m, J') ∧ c_rp J0 B n (p + m) (-1) J' := by
  obtain ⟨h, rfl, h1, h2, h3, h4, h5⟩ := h
  obtain ⟨m1, m2, m3, m4⟩ := hm
  have rp : ∀ i, c_rp J0 B n (p + i) (-1) (j_rw J0 208 (upd h 5 (nI (B + (p + i))))) := fun i => ⟨_, rfl, by rw [upd_ne _ _ (by decide)]; exact h1, by rw [upd_ne _ _ (by decide)]; exact h2, by rw [upd_ne _ _ (by decide)]; exact h3, by rw [upd_ne _ _ (by decide)]; exact h4, by rw [upd_at]⟩
  refine ⟨_, ?_, rp m⟩
  unfold f_Re_number f_Re_number_4
  have h0 : (((0 : Int32), (0 : Int32), j_rw J0 208 h) : Int32 × Int32 × j_M) = (d_v b p 0, nI 0, j_rw J0 208 (upd h 5 (nI (B + (p + 0))))) := by
    rw [Nat.add_zero, ← h5, upd_id rfl]; rfl
  rw [h0]
  refine j_it_run (r := some (d_v b p m, j_rw J0 208 (upd h 5 (nI (B + (p + m)))))) (fun i => (d_v b p i, nI i, j_rw J0 208 (upd h 5 (nI (B + (p + i)))))) m (fun i hi again => ?_) (fun again => ?_) F 0 (by omega) (by omega)
  · obtain ⟨q1, q2⟩ := m2 i hi
    have en : cnx n b (p + i) = nI (b (p + i)) := if_pos q1
    dsimp only
    unfold f_Re_number_4b
    rw [if_neg (show ¬ (5 : Int32) ≤ nI i from nI_ge (b := 5) (by omega) (by decide)), c_nx ct (by omega) (rp i), j_bdS, en, e_isd q2, j_bdS, if_neg (show ¬ (1 : Int32) = 0 by decide), c_nx ct (by omega) (rp i), j_bdS, en]
    simp only [j_letE, nI_1, rw_at, upd_at, rw_wr, upd_upd]
    rw [Int32.mul_comm]
    rfl
  · dsimp only
    unfold f_Re_number_4b
    by_cases c5 : m = 5
    · rw [if_pos (show (5 : Int32) ≤ nI m by rw [c5]; decide)]
    · rw [if_neg (show ¬ (5 : Int32) ≤ nI m from nI_ge (b := 5) (by omega) (by decide)), c_nx ct (by omega) (rp m), j_bdS]
      unfold cnx
      by_cases c : p + m < n
      · have nd : ¬ dgt (b (p + m)) := by
          rcases m3 with z | z | z
          · exact absurd z c5
          · omega
          · exact z
        rw [if_pos c, e_isn (ct.2.1 _) nd, j_bdS, if_pos rfl]
      · rw [if_neg c, e_ism, j_bdS, if_pos rfl]
def s_P (l d p : Nat) (W : List Nat) (out : List (Nat × Int32)) : Prop := W.length + out.length ≤ p ∧ (∀ w, w ∈ W → w = 4 ∨ iop w) ∧ W.count 4 = d ∧ ∀ w W', W = w :: W' → w / 10 < 4 + l
/-- what reading an expression comes to, on both sides -/
def s_Q (F n o B : Nat) (b : Nat → Nat) (nm : Nat → Int32) (J0 K0 : j_M) (l d p : Nat) (v : Int32) (J' : j_M) : Prop :=
  (∃ p' ov ps, c_rp J0 B n p' (-1) J' ∧ p < p' ∧ p' ≤ n ∧ ov.length + ps.length ≤ p' - p ∧ x_gv nm (ov ++ m_mp ps) v ∧ (∀ x, x ∈ ps → iop x ∧ 4 + l ≤ x / 10) ∧ fol0 n b l ps p' ∧ ∀ (t : Int32) (W : List Nat) (out : List (Nat × Int32)), s_P l d p W out → m_go F n o K0 p 1 t W out p' 0 t (ps ++ W) (out ++ ov)) ∨
  (∃ p', c_rp J0 B n p' (-1) J' ∧ p < p' ∧ p' < n ∧ dgt (b p') ∧ ∀ (t : Int32) (W : List Nat) (out : List (Nat × Int32)), s_P l d p W out → m_en F n o K0 p 1 t W out p') ∨
  (∃ p' pos, c_rp J0 B n p' (nI pos) J' ∧ pos ≤ n ∧ ∀ (t : Int32) (W : List Nat) (out : List (Nat × Int32)), s_P l d p W out → m_en F n o K0 p 1 t W out pos)
theorem fol3 {n p : Nat} (b : Nat → Nat) (hp : p ≤ n) : fol n b 3 p := by
  by_cases c : p = n
  · exact Or.inl c
  · refine Or.inr ⟨by omega, ?_⟩
    by_cases s : sg (b p) = 0
    · exact Or.inl s
    · have := (iop_tight (sg_iop s)).2.1
      exact Or.inr (by omega)
theorem s_39 {F n o B d p : Nat} {b : Nat → Nat} {nm : Nat → Int32} {J0 K0 J : j_M} {rec : Nat → Int32 → Int32 → j_M → Option (Int32 × j_M)} (hF : 20000000 < F) (ct : c_tx n b nm B J0) (tx : m_tx n b K0) (ho : o < 30) (hp : p ≤ n) (h8 : p < n → b p = 40 → d = 8) (h : c_rp J0 B n p (-1) J) : j_wpo (f_Re_operand_39 F rec J) (s_Q F n o B b nm J0 K0 3 d p) := by
  have h120 := ct.1
  have bad : (∀ (t : Int32) (W : List Nat) (out : List (Nat × Int32)), s_P 3 d p W out → m_en F n o K0 p 1 t W out p) → j_wpo (f_Re_operand_72 F rec (-1) J) (s_Q F n o B b nm J0 K0 3 d p) := by
    intro hen
    unfold f_Re_operand_72 f_Re_operand_86
    obtain ⟨J', e, r⟩ := c_fail (F := F) h
    rw [if_pos (by decide), e, j_bdS]
    exact wpo_some (Or.inr (Or.inr ⟨p, p, r, hp, hen⟩))
  unfold f_Re_operand_39
  rw [c_nx ct hp h, j_bdS]
  unfold cnx
  by_cases c : p < n
  · rw [if_pos c]
    have hc := ct.2.1 p
    by_cases dd : dgt (b p)
    · rw [e_isd dd, j_bdS, if_neg (show ¬ (1 : Int32) = 0 by decide)]
      obtain ⟨m, hm⟩ := d_ex b hp
      have hm1 : 1 ≤ m := by
        rcases Nat.eq_zero_or_pos m with z | z
        · subst z
          rcases hm.2.2.1 with y | y | y
          · omega
          · omega
          · exact absurd dd y
        · exact z
      obtain ⟨J', e, r⟩ := c_num hF ct hm h
      rw [e, j_bdS]
      refine wpo_some ?_
      have hm4 := hm.2.2.2
      by_cases six : m = 5 ∧ p + m < n ∧ dgt (b (p + m))
      · obtain ⟨rfl, s1, s2⟩ := six
        exact Or.inr (Or.inl ⟨p + 5, r, by omega, s1, s2, fun t W out _ => tk_six hF tx c hm ⟨s1, s2⟩⟩)
      · refine Or.inl ⟨p + m, [(1, d_v b p m)], [], r, by omega, hm4, by simp; omega, ?_, fun x hx => absurd hx List.not_mem_nil, Or.inl (fol3 b hm4), fun t W out hP => tk_num hF tx ho c hP.1 hm hm1 six⟩
        exact gv_one (fun S => x_num S)
    · rw [e_isn hc dd, j_bdS, if_pos (show (0 : Int32) = 0 from rfl), if_neg (nI_nem (by omega)), e_index hF hc, j_bdS]
      by_cases ci : ixn (b p) < 8
      · rw [if_pos ci]
        unfold f_Re_operand_72
        rw [if_neg (nI_pos (by omega)), if_pos (show nI (ixn (b p)) < 8 from nI_lt (b := 8) ci (by decide)), j_letE, if_pos (j_ok_nI ci (by decide)), j_ix_nI (by omega)]
        refine wpo_some (Or.inl ⟨p + 1, [(100 + b p, 0)], [], c_adv h, by omega, by omega, by simp, ?_, fun x hx => absurd hx List.not_mem_nil, Or.inl (fol3 b (by omega)), fun t W out hP => tk_name tx ho c hP.1 ci⟩)
        have e209 : (j_wr J 208 5 (J 208 5 + 1)) 209 (ixn (b p)) = nm (b p) := by
          rw [j_wr_cell _ _ _ (by decide)]
          obtain ⟨hh, rfl, -⟩ := h
          rw [rw_ne (by decide)]
          exact ct.2.2.2.2 (b p) ci
        rw [e209]
        exact gv_one (fun S => x_nam ci S)
      · rw [if_neg ci]
        refine bad (fun t W out hP => ?_)
        by_cases c40 : b p = 40
        · exact tk_deep hF tx c hP.1 hP.2.1 c40 (by rw [hP.2.2.1]; exact h8 c c40)
        · exact tk_bad hF tx c c40 ci dd
  · have e : p = n := by omega
    rw [if_neg c, e_ism, j_bdS, if_pos (show (0 : Int32) = 0 from rfl), if_pos (show (-1 : Int32) = -1 from rfl)]
    exact bad (fun t W out hP => by rw [e]; exact tk_end1 tx)
theorem s_opd {F n o B d p k : Nat} {b : Nat → Nat} {nm : Nat → Int32} {J0 K0 J : j_M} (hF : 20000000 < F) (ct : c_tx n b nm B J0) (tx : m_tx n b K0) (ho : o < 30) (hd : d ≤ 8) (hp : p ≤ n) (h : c_rp J0 B n p (-1) J) (ih : d < 8 → ∀ p J, p ≤ n → c_rp J0 B n p (-1) J → j_wpo (f_Re_rec F k 0 0 (nI (d + 1)) J) (s_Q F n o B b nm J0 K0 0 (d + 1) p)) : j_wpo (f_Re_operand F (f_Re_rec F k) (nI d) J) (s_Q F n o B b nm J0 K0 3 d p) := by
  have h120 := ct.1
  unfold f_Re_operand
  by_cases c8 : d = 8
  · rw [if_pos (show (8 : Int32) ≤ nI d by rw [c8]; decide)]
    exact s_39 hF ct tx ho hp (fun _ _ => c8) h
  rw [if_neg (show ¬ (8 : Int32) ≤ nI d from nI_ge (b := 8) (by omega) (by decide))]
  by_cases c : p < n ∧ b p = 40
  · obtain ⟨c1, c2⟩ := c
    obtain ⟨J1, e1, r1⟩ := c_take1 (F := F) ct c1 c2 h
    have e1' : f_Re_take F 40 J = some (1, J1) := e1
    rw [e1', j_bdS, if_neg (show ¬ (1 : Int32) = 0 by decide), nI_1]
    refine wpo_bd (wpo_mono (ih (by omega) (p + 1) J1 (by omega) r1) ?_)
    have inP : ∀ W out, s_P 3 d p W out → s_P 0 (d + 1) (p + 1) (4 :: W) out ∧ W.count 4 < 8 := fun W out hP => by
      obtain ⟨y1, y2, y3, y4⟩ := hP
      refine ⟨⟨by simp; omega, fun w hw => ?_, by rw [List.count_cons_self, y3], fun w W' hW => ?_⟩, by omega⟩
      · rcases List.mem_cons.mp hw with z | z
        · exact Or.inl z
        · exact y2 w z
      · cases hW; decide
    have opn : ∀ (t : Int32) W out, s_P 3 d p W out → m_go F n o K0 p 1 t W out (p + 1) 1 t (4 :: W) out := fun t W out hP => tk_open hF tx c1 hP.1 hP.2.1 c2 (inP W out hP).2
    rintro v J2 (⟨p', ov, ps, r2, q1, q2, q3, q4, q5, q6, q7⟩ | ⟨p', r2, q1, q2, q3, q4⟩ | ⟨p', pos, r2, q1, q2⟩)
    · by_cases c3 : p' < n ∧ b p' = 41
      · obtain ⟨J3, e3, r3⟩ := c_take1 (F := F) ct c3.1 c3.2 r2
        have e3' : f_Re_take F 41 J2 = some (1, J3) := e3
        rw [e3', j_bdS, if_neg (show ¬ (1 : Int32) = 0 by decide)]
        refine wpo_some (Or.inl ⟨p' + 1, ov ++ m_mp ps, [], r3, by omega, by omega, by simp; omega, by simpa using q4, fun x hx => absurd hx List.not_mem_nil, Or.inl (fol3 b (by omega)), fun t W out hP => ?_⟩)
        have g1 := go_tr (opn t W out hP) (q7 t (4 :: W) out (inP W out hP).1)
        have g2 := tk_close (t := t) (ps := ps) (W := W) (out := out ++ ov) hF tx ho c3.1 (by have := hP.1; simp; omega) (fun x hx => (q5 x hx).1) c3.2
        have g3 := go_tr g1 g2
        rw [List.append_assoc] at g3
        exact g3
      · have e3 : f_Re_take F 41 J2 = some (0, J2) := c_take0 (c := 41) ct q2 (by decide) c3 r2
        obtain ⟨J3, e4, r4⟩ := c_fail (F := F) r2
        rw [e3, j_bdS, if_pos (show (0 : Int32) = 0 from rfl), e4, j_bdS]
        refine wpo_some (Or.inr (Or.inr ⟨p', p', r4, q2, fun t W out hP => ?_⟩))
        have g1 := go_tr (opn t W out hP) (q7 t (4 :: W) out (inP W out hP).1)
        exact go_en g1 (tk_stop hF tx ho (by have := hP.1; simp; omega) (fun x hx => (q5 x hx).1) q6 c3)
    · have nd := dgt_not q3
      have e3 : f_Re_take F 41 J2 = some (0, J2) := c_take0 (c := 41) ct (by omega) (by decide) (fun z => nd.2.2.2.1 z.2) r2
      obtain ⟨J3, e4, r4⟩ := c_fail (F := F) r2
      rw [e3, j_bdS, if_pos (show (0 : Int32) = 0 from rfl), e4, j_bdS]
      exact wpo_some (Or.inr (Or.inr ⟨p', p', r4, by omega, fun t W out hP => go_en (opn t W out hP) (q4 t (4 :: W) out (inP W out hP).1)⟩))
    · have nf : nI pos ≠ -1 := nI_nem (by omega)
      have e3 : f_Re_take F 41 J2 = some (0, J2) := c_takef (c := 41) nf (by decide) r2
      rw [e3, j_bdS, if_pos (show (0 : Int32) = 0 from rfl), c_failf nf r2, j_bdS]
      exact wpo_some (Or.inr (Or.inr ⟨p', pos, r2, q1, fun t W out hP => go_en (opn t W out hP) (q2 t (4 :: W) out (inP W out hP).1)⟩))
  · have e1 : f_Re_take F 40 J = some (0, J) := c_take0 (c := 40) ct hp (by decide) c h
    rw [e1, j_bdS, if_pos (show (0 : Int32) = 0 from rfl)]
    exact s_39 hF ct tx ho hp (fun z1 z2 => absurd ⟨z1, z2⟩ c) h
