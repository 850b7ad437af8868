/-! foretold: the mean over the nights nearest by rain -/
theorem fl_rem {S c : Int64} : (S - S / c * c).toInt = S.toInt.tmod c.toInt := by
  rw [Int64.toInt_sub, Int64.toInt_mul, Int64.toInt_div, Int.sub_bmod_bmod]
  have e : (S.toInt - (S.toInt.tdiv c.toInt).bmod (2 ^ 64) * c.toInt).bmod (2 ^ 64) = (S.toInt - S.toInt.tdiv c.toInt * c.toInt).bmod (2 ^ 64) := by
    rw [← Int.sub_bmod_bmod (y := (S.toInt.tdiv c.toInt).bmod (2 ^ 64) * c.toInt), Int.bmod_mul_bmod, Int.sub_bmod_bmod]
  rw [e, Int.mul_comm, ← Int.tmod_def]
  have h1 := Int64.toInt_mod S c
  have h2 := Int64.le_toInt (S % c)
  have h3 := Int64.toInt_lt (S % c)
  rw [h1] at h2 h3
  exact Int.bmod_eq_of_le (by omega) (by omega)
theorem fl_xor {S c : Int64} (hc : 0 < c.toInt) : (0 ≤ lg_cmp (S ^^^ c) 0) ↔ 0 ≤ S.toInt := by
  rw [lg_cmp_ge, Int64.le_iff_toInt_le]
  have e := BitVec.msb_xor (x := S.toBitVec) (y := c.toBitVec)
  rw [BitVec.msb_eq_toInt, BitVec.msb_eq_toInt, BitVec.msb_eq_toInt] at e
  have e1 : (S.toBitVec ^^^ c.toBitVec).toInt = (S ^^^ c).toInt := rfl
  have e2 : S.toBitVec.toInt = S.toInt := rfl
  have e3 : c.toBitVec.toInt = c.toInt := rfl
  have e0 : (0 : Int64).toInt = 0 := by decide
  rw [e1, e2, e3, decide_eq_false (show ¬ c.toInt < 0 by omega)] at e
  rw [e0]
  by_cases z : S.toInt < 0
  · rw [decide_eq_true z] at e
    have q : (S ^^^ c).toInt < 0 := of_decide_eq_true e
    omega
  · rw [decide_eq_false z] at e
    have q : ¬ (S ^^^ c).toInt < 0 := of_decide_eq_false e
    omega
theorem fl_same {α : Type} {S c : Int64} (hc : 0 < c.toInt) {A B : α} : (if 0 ≤ lg_cmp (S ^^^ c) 0 then A else (if lg_cmp (S / c * c) S = 0 then A else B)) = (if 0 ≤ lg_cmp (S - S / c * c) 0 then A else B) := by
  have h1 := fl_xor (S := S) hc
  have h2 : (0 ≤ lg_cmp (S - S / c * c) 0) ↔ 0 ≤ S.toInt.tmod c.toInt := by
    rw [lg_cmp_ge, Int64.le_iff_toInt_le, fl_rem]
    have e0 : (0 : Int64).toInt = 0 := by decide
    rw [e0]
  by_cases z : 0 ≤ S.toInt
  · rw [if_pos (h1.mpr z), if_pos (h2.mpr (Int.tmod_nonneg _ z))]
  · rw [if_neg (fun y => z (h1.mp y))]
    have h3 : S.toInt.tmod c.toInt ≤ 0 := by
      have := Int.tmod_nonneg (a := -S.toInt) c.toInt (by omega)
      rw [Int.neg_tmod] at this
      omega
    by_cases y : lg_cmp (S / c * c) S = 0
    · rw [if_pos y]
      have y2 := (lg_cmp_eq _ _).mp y
      rw [if_pos]
      rw [h2, ← fl_rem, y2]
      have : (S - S).toInt = 0 := by rw [Int64.sub_self]; decide
      omega
    · rw [if_neg y, if_neg]
      intro w
      refine y ((lg_cmp_eq _ _).mpr ?_)
      have w2 := h2.mp w
      have w3 : (S - S / c * c).toInt = 0 := by rw [fl_rem]; omega
      have w4 : S - S / c * c = 0 := Int64.toInt_inj.mp (by rw [w3]; decide)
      have w5 : S - S / c * c + S / c * c = S := Int64.sub_add_cancel _ _
      rw [w4, Int64.zero_add] at w5
      exact w5
def g_ls (g : Nat → Nat) : Nat → Nat
  | 0 => 481
  | n + 1 => if g n < g_ls g n then g n else g_ls g n
def g_sm (t : Nat → Int32) (g : Nat → Nat) (v : Nat) : Nat → Int64
  | 0 => 0
  | n + 1 => if g n = v then g_sm t g v n + (t n).toInt64 else g_sm t g v n
def g_ct (g : Nat → Nat) (v : Nat) : Nat → Nat
  | 0 => 0
  | n + 1 => if g n = v then g_ct g v n + 1 else g_ct g v n
theorem ls_le {g : Nat → Nat} : ∀ {n : Nat}, ∀ j, j < n → g_ls g n ≤ g j
  | 0, j, h => absurd h (Nat.not_lt_zero _)
  | n + 1, j, h => by
    rw [g_ls]
    by_cases e : j = n
    · subst e; split <;> omega
    · have := ls_le (g := g) (n := n) j (by omega)
      split <;> omega
theorem ls_bd (g : Nat → Nat) : ∀ n, g_ls g n ≤ 481
  | 0 => Nat.le_refl _
  | n + 1 => by
    have := ls_bd g n
    rw [g_ls]; split <;> omega
theorem ct_le (g : Nat → Nat) (v : Nat) : ∀ n, g_ct g v n ≤ n
  | 0 => Nat.le_refl _
  | n + 1 => by
    have := ct_le g v n
    rw [g_ct]; split <;> omega
theorem ct_mono {g : Nat → Nat} {v : Nat} : ∀ {n : Nat} (j : Nat), j < n → g j = v → 1 ≤ g_ct g v n
  | 0, j, h, _ => absurd h (Nat.not_lt_zero _)
  | n + 1, j, h, e => by
    rw [g_ct]
    by_cases ej : j = n
    · subst ej; rw [if_pos e]; omega
    · have := ct_mono (n := n) j (by omega) e
      split <;> omega
theorem ls_at {g : Nat → Nat} (hg : ∀ j, g j ≤ 480) : ∀ {n : Nat}, 0 < n → ∃ j, j < n ∧ g j = g_ls g n
  | 0, h => absurd h (Nat.lt_irrefl _)
  | n + 1, _ => by
    rw [g_ls]
    by_cases c : g n < g_ls g n
    · rw [if_pos c]; exact ⟨n, by omega, rfl⟩
    · rw [if_neg c]
      cases n with
      | zero => have := hg 0; rw [g_ls] at c; omega
      | succ n =>
        obtain ⟨j, h1, h2⟩ := ls_at hg (n := n + 1) (by omega)
        exact ⟨j, by omega, h2⟩
theorem sm_none {t : Nat → Int32} {g : Nat → Nat} {v : Nat} : ∀ {n : Nat}, (∀ j, j < n → g j ≠ v) → g_sm t g v n = 0 ∧ g_ct g v n = 0
  | 0, _ => ⟨rfl, rfl⟩
  | n + 1, h => by
    obtain ⟨h1, h2⟩ := sm_none (t := t) (n := n) (fun j hj => h j (by omega))
    rw [g_sm, g_ct, if_neg (h n (by omega)), if_neg (h n (by omega))]
    exact ⟨h1, h2⟩
theorem ab_gap {p r : Nat} (hp : p ≤ 480) (hr : r ≤ 480) : (if 0 ≤ nI p - nI r then nI p - nI r else 0 - (nI p - nI r)) = nI (if r ≤ p then p - r else r - p) ∧ (if nI r ≤ nI p then nI p - nI r else nI r - nI p) = nI (if r ≤ p then p - r else r - p) := by
  by_cases c : r ≤ p
  · rw [pk_sub c, if_pos c, if_pos (nI_pos' (by omega)), if_pos (nI_le c (by omega))]
    exact ⟨rfl, rfl⟩
  · have e : nI r - nI p = nI (r - p) := pk_sub (by omega)
    rw [if_neg c, if_neg (fun z => absurd (pk_sneg (a := p) (b := r) (by omega) (by omega)) (Int32.not_lt.mpr z)), if_neg (nI_ge (by omega) (by omega))]
    refine ⟨?_, e⟩
    rw [← e]
    apply Int32.toInt_inj.mp
    have e0 : (0 : Int32).toInt = 0 := by decide
    rw [Int32.toInt_sub, pk_sub_toInt (by omega) (by omega), pk_sub_toInt (by omega) (by omega), e0, Int.bmod_eq_of_le (by omega) (by omega)]
    omega
theorem nl_toInt {n : Nat} (h : n < 2 ^ 31) : ((nI n).toInt64).toInt = n := by rw [Int32.toInt_toInt64, nI_toInt h]
theorem op_foretold (F : Nat) (hF : 20000000 < F) (x1 : Int32) : OP F (f_G_foretold F x1) (f_M_foretold F x1) := by
  intro s J K hs h
  have h0 := h
  obtain ⟨hr, h1, h2⟩ := h
  obtain ⟨a0, b0, c0, a1, b1, c1, a2, b2, c2, a3, b3, c3, d3, a4, b4, c4, a5, b5, c5, a6, b6, c6, a7, b7, c7, a8, b8, c8, a9, b9, c9, a10, b10, c10, a11, b11, c11, a12, a15, c15, a14, b14, c14, e1, e2, e3, e4, e5, e6, r1, r2, r3, r4, r5, r6, r7, r8, r9, r10, r11, r12, r13, r14, r15, r16, r17, hwk, hso, hrn, hnu, hpt, hrg, hbx, hor, hsa, hsb, hsc, hsn, hwz, hth, hla, hli, hlt, hpr, hby, htp, hrm, hhd, hlr, hK⟩ := hr
  simp only [f_G_foretold, f_M_foretold, e_within, e_among, j_bdS, d3, b3, bd_id]
  refine wp2_ite Iff.rfl (fun q1 => wp2_mk rfl rfl (op_idle hs h0 rfl)) (fun q1 => ?_)
  obtain ⟨r, hr, rfl⟩ := nI_in2 480 rfl (by decide) (b10n q1)
  by_cases hn : s 3 = 0
  · rw [hn]
    exact wp2_Lp (by decide) (wp2_Rp rfl (wp2_mk rfl rfl (op_idle hs h0 rfl)))
  refine wp2_Ln (nI_nle (by omega) (by omega)) (wp2_Rn (nI_ne0 (by omega) (by omega)) ?_)
  have hlr2 : ∀ q, ∃ k, k ≤ 480 ∧ (q < s 3 → J 213 q = nI k) := fun q => by
    by_cases c : q < s 3
    · obtain ⟨k, k1, k2⟩ := hlr q c
      exact ⟨k, k1, fun _ => k2⟩
    · exact ⟨0, by omega, fun z => absurd z c⟩
  obtain ⟨ρ, hρ⟩ := Classical.axiomOfChoice hlr2
  have key : ∀ g : Nat → Nat, (g = fun i => if r ≤ ρ i then ρ i - r else r - ρ i) → j_wp2 (f_Le_meanNearest F (nI r) J) (f_M_foretold_27 F (nI r) 1000000 0 K) (OPQ F s J K) := by
    intro g hg
    have hg4 : ∀ j, g j ≤ 480 := fun j => by
      have := (hρ j).1
      rw [hg]; dsimp only; split <;> omega
    obtain ⟨j0, hj0, ej0⟩ := ls_at hg4 (n := s 3) (by omega)
    have hct := ct_mono (g := g) j0 hj0 ej0
    have hct2 := ct_le g (g_ls g (s 3)) (s 3)
    have gJ : ∀ i, i < s 3 → (if 0 ≤ J 213 i - nI r then J 213 i - nI r else 0 - (J 213 i - nI r)) = nI (g i) := fun i hi => by
      rw [(hρ i).2 hi, (ab_gap (hρ i).1 hr).1, hg]
    have gK : ∀ i, i < s 3 → f_M_off F (K 256 i) (nI r) K = some (nI (g i), K) := fun i hi => by
      unfold f_M_off
      rw [← r14, (hρ i).2 hi, hg]
      have := (ab_gap (hρ i).1 hr).2
      dsimp only
      rw [← this]
      by_cases c : nI r ≤ nI (ρ i)
      · rw [if_pos c, if_pos c]
      · rw [if_neg c, if_neg c]
    have e1 : f_Le_meanNearest F (nI r) J = some ((if 0 ≤ lg_cmp (g_sm (J 212) g (g_ls g (s 3)) (s 3) - g_sm (J 212) g (g_ls g (s 3)) (s 3) / (nI (g_ct g (g_ls g (s 3)) (s 3))).toInt64 * (nI (g_ct g (g_ls g (s 3)) (s 3))).toInt64) 0 then g_sm (J 212) g (g_ls g (s 3)) (s 3) / (nI (g_ct g (g_ls g (s 3)) (s 3))).toInt64 else g_sm (J 212) g (g_ls g (s 3)) (s 3) / (nI (g_ct g (g_ls g (s 3)) (s 3))).toInt64 - 1).toInt32, J) := by
      unfold f_Le_meanNearest f_Le_meanNearest_12
      refine j_it_run (r := _) (fun i => (nI r, nI (g_ls g i), g_sm (J 212) g (g_ls g i) i, nI (g_ct g (g_ls g i) i), nI i, J)) (s 3) (fun i hi again => ?_) (fun again => ?_) F 0 (by omega) (by omega)
      · dsimp only
        unfold f_Le_meanNearest_12b f_Le_meanNearest_49 f_Le_meanNearest_69
        have lb := ls_bd g i
        have gb := hg4 i
        rw [d3, if_neg (nI_ge hi (by omega)), if_pos (j_ok_nI (show i < 200 by omega) (by decide)), j_ix_nI (by omega), gJ i hi]
        simp only [j_letE, j_ok_nI (show i < 200 by omega) (show 200 < 2 ^ 31 by decide), if_true, nI_1]
        by_cases c : g i < g_ls g i
        · rw [if_neg (nI_ge c (by omega)), g_ls, if_pos c, g_sm, g_ct, if_pos rfl, if_pos rfl]
          obtain ⟨z1, z2⟩ := sm_none (t := J 212) (g := g) (v := g i) (n := i) (fun j hj e => by have := ls_le (g := g) (n := i) j hj; omega)
          rw [z1, z2]
          rfl
        · rw [if_pos (nI_le (by omega) (by omega)), g_ls, if_neg c, g_sm, g_ct]
          by_cases c2 : g i = g_ls g i
          · rw [if_pos (by rw [c2]), if_pos c2, if_pos c2]
          · rw [if_neg (nI_ne c2 (by omega) (by omega)), if_neg c2, if_neg c2]
      · dsimp only
        unfold f_Le_meanNearest_12b f_Ma_floorDiv
        have cp : ¬ (nI (g_ct g (g_ls g (s 3)) (s 3))).toInt64 = 0 := fun z => by
          have := congrArg Int64.toInt z
          rw [nl_toInt (by omega)] at this
          have e0 : (0 : Int64).toInt = 0 := by decide
          omega
        rw [d3, if_pos (nI_le (Nat.le_refl _) (by omega)), if_neg (nI_ne0 (by omega) (by omega)), if_neg cp]
        simp only [j_letE]
        rw [fl_same (by rw [nl_toInt (by omega)]; omega)]
        by_cases z : 0 ≤ lg_cmp (g_sm (J 212) g (g_ls g (s 3)) (s 3) - g_sm (J 212) g (g_ls g (s 3)) (s 3) / (nI (g_ct g (g_ls g (s 3)) (s 3))).toInt64 * (nI (g_ct g (g_ls g (s 3)) (s 3))).toInt64) 0
        · rw [if_pos z, if_pos z]; rfl
        · rw [if_neg z, if_neg z]; rfl
    have e2 : f_M_foretold_78 F (nI r) (nI (g_ls g (s 3))) 0 0 0 K = some ((if 0 ≤ lg_cmp (g_sm (J 212) g (g_ls g (s 3)) (s 3) - g_sm (J 212) g (g_ls g (s 3)) (s 3) / (nI (g_ct g (g_ls g (s 3)) (s 3))).toInt64 * (nI (g_ct g (g_ls g (s 3)) (s 3))).toInt64) 0 then g_sm (J 212) g (g_ls g (s 3)) (s 3) / (nI (g_ct g (g_ls g (s 3)) (s 3))).toInt64 else g_sm (J 212) g (g_ls g (s 3)) (s 3) / (nI (g_ct g (g_ls g (s 3)) (s 3))).toInt64 - 1).toInt32, K) := by
      have lb := ls_bd g (s 3)
      unfold f_M_foretold_78
      have eC : ∀ n, n < 2 ^ 31 - 1 → (nI n).toInt64 + 1 = (nI (n + 1)).toInt64 := fun n hn => by
        apply Int64.toInt_inj.mp
        rw [Int64.toInt_add, nl_toInt (by omega), nl_toInt (by omega), show (1 : Int64).toInt = 1 by decide, Int.bmod_eq_of_le (by omega) (by omega)]
        rfl
      have i0 : ((nI r, nI (g_ls g (s 3)), (0 : Int64), (0 : Int64), (0 : Int32), K) : Int32 × Int32 × Int64 × Int64 × Int32 × j_M) = (nI r, nI (g_ls g (s 3)), g_sm (J 212) g (g_ls g (s 3)) 0, (nI (g_ct g (g_ls g (s 3)) 0)).toInt64, nI 0, K) := by
        rw [g_sm, g_ct]
        have : (nI 0).toInt64 = 0 := by decide
        rw [this]; rfl
      rw [i0]
      refine j_it_run (r := _) (fun i => (nI r, nI (g_ls g (s 3)), g_sm (J 212) g (g_ls g (s 3)) i, (nI (g_ct g (g_ls g (s 3)) i)).toInt64, nI i, K)) (s 3) (fun i hi again => ?_) (fun again => ?_) F 0 (by omega) (by omega)
      · dsimp only
        unfold f_M_foretold_78b f_M_foretold_122
        have gb := hg4 i
        rw [b3, if_neg (nI_ge hi (by omega)), if_pos (j_ok_nI (show i < 200 by omega) (by decide)), j_ix_nI (by omega), gK i hi, j_bdS]
        simp only [j_letE, j_ok_nI (show i < 200 by omega) (show 200 < 2 ^ 31 by decide), if_true, nI_1]
        rw [g_sm, g_ct, ← r13]
        by_cases c2 : g i = g_ls g (s 3)
        · have := ct_le g (g_ls g (s 3)) i
          rw [if_pos (by rw [c2]), if_pos c2, if_pos c2, eC _ (by omega)]
        · rw [if_neg (nI_ne c2 (by omega) (by omega)), if_neg c2, if_neg c2]
      · dsimp only
        unfold f_M_foretold_78b
        have cp : ¬ (nI (g_ct g (g_ls g (s 3)) (s 3))).toInt64 = 0 := fun z => by
          have := congrArg Int64.toInt z
          rw [nl_toInt (by omega)] at this
          have e0 : (0 : Int64).toInt = 0 := by decide
          omega
        rw [b3, if_pos (nI_le (Nat.le_refl _) (by omega)), if_neg cp]
        simp only [j_letE, if_neg cp]
        by_cases z : 0 ≤ lg_cmp (g_sm (J 212) g (g_ls g (s 3)) (s 3) - g_sm (J 212) g (g_ls g (s 3)) (s 3) / (nI (g_ct g (g_ls g (s 3)) (s 3))).toInt64 * (nI (g_ct g (g_ls g (s 3)) (s 3))).toInt64) 0
        · rw [if_pos z, if_pos z]
        · rw [if_neg z, if_neg z]
    have e3 : f_M_foretold_27 F (nI r) 1000000 0 K = f_M_foretold_78 F (nI r) (nI (g_ls g (s 3))) 0 0 0 K := by
      unfold f_M_foretold_27
      have i0 : ((nI r, (1000000 : Int32), (0 : Int32), K) : Int32 × Int32 × Int32 × j_M) = (nI r, nI (if 0 = 0 then 1000000 else g_ls g 0), nI 0, K) := rfl
      rw [i0]
      refine j_it_run (r := _) (fun i => (nI r, nI (if i = 0 then 1000000 else g_ls g i), nI i, K)) (s 3) (fun i hi again => ?_) (fun again => ?_) F 0 (by omega) (by omega)
      · dsimp only
        unfold f_M_foretold_27b f_M_foretold_63
        have gb := hg4 i
        have lb := ls_bd g i
        rw [b3, if_neg (nI_ge hi (by omega)), if_pos (j_ok_nI (show i < 200 by omega) (by decide)), j_ix_nI (by omega), gK i hi, j_bdS, gK i hi, j_bdS]
        simp only [j_letE, j_ok_nI (show i < 200 by omega) (show 200 < 2 ^ 31 by decide), if_true, nI_1]
        rw [if_neg (Nat.succ_ne_zero i), g_ls]
        by_cases z : i = 0
        · subst z
          rw [if_pos rfl, if_neg (nI_ge (by omega) (by omega)), if_pos (by rw [g_ls]; omega)]
        · rw [if_neg z]
          by_cases c : g i < g_ls g i
          · rw [if_neg (nI_ge c (by omega)), if_pos c]
          · rw [if_pos (nI_le (by omega) (by omega)), if_neg c]
      · dsimp only
        unfold f_M_foretold_27b
        rw [b3, if_pos (nI_le (Nat.le_refl _) (by omega)), if_neg hn]
    exact wp2_mk e1 (e3.trans e2) (op_idle hs h0 rfl)
  exact key _ rfl
