/-- the reference's side of the objects -/
def FdY (h tc : Nat) (rr : Nat → Nat → Nat) (fs yt yf : Nat → Int32) : Prop := ∀ o, o < h → ∃ t, t < tc ∧ yt o = nI t ∧ ∀ f, 8 ≤ f → f < 16 → yf (o * 16 + f) = yR (rr o f) ∧ (bt (fs t) f = false → rr o f = 0)
theorem ev_yr169 (g_types g_methods g_place g_result g_linked g_bad g_high g_refs g_active g_ticks g_code : Int32) (b_above b_ownField b_mType b_mName b_mLength b_bytes b_starts : Nat → Int32) (b_seen b_done : Nat → Int64) (b_heights b_local b_sure b_objType b_objField b_global b_fMethod b_fPc b_fHigh b_fLocal b_fEntry : Nat → Int32) {h tc mc : Nat} {rr : Nat → Nat → Nat} {fs fv mN mL by' : Nat → Int32} (F : FdOK h rr fv) (G : FdY h tc rr fs b_objType b_objField) (P : rl_P tc mc b_above fs b_ownField mN mL by') :
    ∀ d i, i + d = 160 → ∀ ym M, YM ym M → MI h M → ∃ ym', YM ym' (itr (fdG rr) d i M) ∧ ∀ post J (x2 : Nat), J (nI (x2 + 1)) g_types g_methods g_place g_result g_linked g_bad g_high g_refs g_active g_ticks g_code b_above b_ownField b_mType b_mName b_mLength b_bytes b_starts b_seen b_done b_heights b_local b_sure b_objType b_objField ym' b_global b_fMethod b_fPc b_fHigh b_fLocal b_fEntry → wY_reached_169 post J (nI x2) (d + 1) (nI i) g_types g_methods g_place g_result g_linked g_bad g_high g_refs g_active g_ticks g_code b_above b_ownField b_mType b_mName b_mLength b_bytes b_starts b_seen b_done b_heights b_local b_sure b_objType b_objField ym b_global b_fMethod b_fPc b_fHigh b_fLocal b_fEntry := by
  have h10 := F.1
  have h5 := P.1
  intro d
  induction d with
  | zero =>
    intro i hi ym M hY I
    cases (show i = 160 by omega)
    refine ⟨ym, hY, fun post J x2 j => ?_⟩
    unfold wY_reached_169
    exact br_t (by decide) (nm_r (nI_1 _) j)
  | succ d ih =>
    intro i hi ym M hY I
    obtain ⟨o, f, hf16, rfl⟩ : ∃ o f, f < 16 ∧ i = o * 16 + f := ⟨i / 16, i % 16, by omega, by omega⟩
    have q1 : (o * 16 + f) / 16 = o := by omega
    have q2 : o * 16 + f - o * 16 = f := by omega
    have hy := hY o (by omega)
    rw [itr_s, fdG_at rr hf16]
    cases hM : M o
    · rw [if_neg (fun z => by exact nomatch z.2)]
      obtain ⟨ym', c1, c2⟩ := ih (o * 16 + f + 1) (by omega) ym M hY I
      refine ⟨ym', c1, fun post J x2 j => ?_⟩
      rw [hM] at hy
      unfold wY_reached_169
      simp (disch := omega) only [nI_clamp, gm_clL, gm_in, gm_inL, gm_ml, gm_al, gm_la, gm_sl, nI_add, pk_mul, gm_eqL, gm_leL, gm_ltL, gm_Lle, gm_Llt, gm_eq, gm_le, gm_lt, gm_m1, forall_eq, true_and, Nat.not_lt_zero, Nat.add_sub_cancel, gm_z2, gm_z3, gm_z9, gm_z16, gm_z18, gm_z32, gm_z36, gm_z64, gm_z1152, not_true_eq_false, not_false_eq_true, false_implies, true_implies, and_true, implies_true, gm_dl, gm_sb, q1, q2]
      exact ⟨fun z => absurd z (by omega), fun _ => br_t hy (c2 post J x2 j)⟩
    · have ho := I o hM
      have hy1 : ¬ ym o = 0 := by rw [hy, hM]; decide
      by_cases h8 : 8 ≤ f
      · rw [if_pos ⟨h8, rfl⟩]
        obtain ⟨a1, a2⟩ := F.2 o ho f h8 hf16
        obtain ⟨t, ht, b1, b2⟩ := G o ho
        obtain ⟨b3, b4⟩ := b2 f h8 hf16
        cases hb : bt (fs t) f
        · rw [b4 hb, mk1_0]
          obtain ⟨ym', c1, c2⟩ := ih (o * 16 + f + 1) (by omega) ym M hY I
          refine ⟨ym', c1, fun post J x2 j => ?_⟩
          unfold wY_reached_169
          simp (disch := omega) only [nI_clamp, gm_clL, gm_in, gm_inL, gm_ml, gm_al, gm_la, gm_sl, nI_add, pk_mul, gm_eqL, gm_leL, gm_ltL, gm_Lle, gm_Llt, gm_eq, gm_le, gm_lt, gm_m1, forall_eq, true_and, Nat.not_lt_zero, Nat.add_sub_cancel, gm_z2, gm_z3, gm_z9, gm_z16, gm_z18, gm_z32, gm_z36, gm_z64, gm_z1152, not_true_eq_false, not_false_eq_true, false_implies, true_implies, and_true, implies_true, gm_dl, gm_sb, q1, q2, b1, b3]
          refine ⟨fun z => absurd z (by omega), fun _ => br_f hy1 ⟨fun z => absurd z (by omega), fun _ => ev_yhas g_types g_methods g_place g_result g_linked g_bad g_high g_refs g_active g_ticks g_code b_above b_ownField b_mType b_mName b_mLength b_bytes b_starts b_seen b_done b_heights b_local b_sure b_objType b_objField ym b_global b_fMethod b_fPc b_fHigh b_fLocal b_fEntry P hf16 ht ?_⟩⟩
          rw [hb]
          exact br_t rfl (c2 post J x2 j)
        · obtain ⟨ym1, c1, c2⟩ : ∃ ym', YM ym' (mk1 M (rr o f)) ∧ ∀ post : SY → Prop, post (g_types, g_methods, g_place, g_result, g_linked, g_bad, g_high, g_refs, g_active, g_ticks, g_code, b_above, b_ownField, b_mType, b_mName, b_mLength, b_bytes, b_starts, b_seen, b_done, b_heights, b_local, b_sure, b_objType, b_objField, ym', b_global, b_fMethod, b_fPc, b_fHigh, b_fLocal, b_fEntry) → wpY_mark post (g_types, g_methods, g_place, g_result, g_linked, g_bad, g_high, g_refs, g_active, g_ticks, g_code, b_above, b_ownField, b_mType, b_mName, b_mLength, b_bytes, b_starts, b_seen, b_done, b_heights, b_local, b_sure, b_objType, b_objField, ym, b_global, b_fMethod, b_fPc, b_fHigh, b_fLocal, b_fEntry) (yR (rr o f)) := by
            cases hr : rr o f with
            | zero => exact ⟨ym, by rw [mk1_0]; exact hY, fun post J => br_t (by rw [yR_0]; decide) J⟩
            | succ k =>
              refine ⟨upd ym k 1, YM_up hY k, fun post J => ?_⟩
              rw [yR_s]
              refine br_f (nI_pos (by omega)) ⟨vp_in_nI (by omega) (by omega), nm_e ?_⟩
              rw [nI_clamp (by omega), gm_nb1]
              exact J
          obtain ⟨ym2, d1, d2⟩ := ih (o * 16 + f + 1) (by omega) ym1 _ c1 (MI_mk1 I a1)
          refine ⟨ym2, d1, fun post J x2 j => ?_⟩
          unfold wY_reached_169
          simp (disch := omega) only [nI_clamp, gm_clL, gm_in, gm_inL, gm_ml, gm_al, gm_la, gm_sl, nI_add, pk_mul, gm_eqL, gm_leL, gm_ltL, gm_Lle, gm_Llt, gm_eq, gm_le, gm_lt, gm_m1, forall_eq, true_and, Nat.not_lt_zero, Nat.add_sub_cancel, gm_z2, gm_z3, gm_z9, gm_z16, gm_z18, gm_z32, gm_z36, gm_z64, gm_z1152, not_true_eq_false, not_false_eq_true, false_implies, true_implies, and_true, implies_true, gm_dl, gm_sb, q1, q2, b1, b3]
          refine ⟨fun z => absurd z (by omega), fun _ => br_f hy1 ⟨fun z => absurd z (by omega), fun _ => ev_yhas g_types g_methods g_place g_result g_linked g_bad g_high g_refs g_active g_ticks g_code b_above b_ownField b_mType b_mName b_mLength b_bytes b_starts b_seen b_done b_heights b_local b_sure b_objType b_objField ym b_global b_fMethod b_fPc b_fHigh b_fLocal b_fEntry P hf16 ht ?_⟩⟩
          rw [hb]
          exact br_f (by decide) (c2 _ (d2 post J x2 j))
      · rw [if_neg (fun z => h8 z.1)]
        obtain ⟨ym', c1, c2⟩ := ih (o * 16 + f + 1) (by omega) ym M hY I
        refine ⟨ym', c1, fun post J x2 j => ?_⟩
        unfold wY_reached_169
        simp (disch := omega) only [nI_clamp, gm_clL, gm_in, gm_inL, gm_ml, gm_al, gm_la, gm_sl, nI_add, pk_mul, gm_eqL, gm_leL, gm_ltL, gm_Lle, gm_Llt, gm_eq, gm_le, gm_lt, gm_m1, forall_eq, true_and, Nat.not_lt_zero, Nat.add_sub_cancel, gm_z2, gm_z3, gm_z9, gm_z16, gm_z18, gm_z32, gm_z36, gm_z64, gm_z1152, not_true_eq_false, not_false_eq_true, false_implies, true_implies, and_true, implies_true, gm_dl, gm_sb, q1, q2]
        exact ⟨fun z => absurd z (by omega), fun _ => br_f hy1 ⟨fun _ => c2 post J x2 j, fun z => absurd (by omega) z⟩⟩
theorem ev_yr243 (g_types g_methods g_place g_result g_linked g_bad g_high g_refs g_active g_ticks g_code : Int32) (b_above b_ownField b_mType b_mName b_mLength b_bytes b_starts : Nat → Int32) (b_seen b_done : Nat → Int64) (b_heights b_local b_sure b_objType b_objField b_marked b_global b_fMethod b_fPc b_fHigh b_fLocal b_fEntry : Nat → Int32) {post : Int32 → SY → Prop} {M : Nat → Bool} (hY : YM b_marked M) (J : post (nI (cb M 10)) (g_types, g_methods, g_place, g_result, g_linked, g_bad, g_high, g_refs, g_active, g_ticks, g_code, b_above, b_ownField, b_mType, b_mName, b_mLength, b_bytes, b_starts, b_seen, b_done, b_heights, b_local, b_sure, b_objType, b_objField, b_marked, b_global, b_fMethod, b_fPc, b_fHigh, b_fLocal, b_fEntry)) : ∀ d j, j + d = 10 → wY_reached_243 post g_types g_methods g_place g_result g_linked g_bad g_high g_refs g_active g_ticks g_code b_above b_ownField b_mType b_mName b_mLength b_bytes b_starts b_seen b_done b_heights b_local b_sure b_objType b_objField b_marked b_global b_fMethod b_fPc b_fHigh b_fLocal b_fEntry (d + 1) (nI (cb M j)) (nI j) := by
  intro d
  induction d with
  | zero =>
    intro j hj
    cases (show j = 10 by omega)
    unfold wY_reached_243
    exact br_t (by decide) J
  | succ d ih =>
    intro j hj
    have hx := hY j (by omega)
    have hc := cb_le M j
    have h2 := ih (j + 1) (by omega)
    unfold cb at h2
    unfold wY_reached_243
    simp (disch := omega) only [nI_clamp, gm_clL, gm_in, gm_inL, gm_ml, gm_al, gm_la, gm_sl, nI_add, pk_mul, gm_eqL, gm_leL, gm_ltL, gm_Lle, gm_Llt, gm_eq, gm_le, gm_lt, gm_m1, forall_eq, true_and, Nat.not_lt_zero, Nat.add_sub_cancel, gm_z2, gm_z3, gm_z9, gm_z16, gm_z18, gm_z32, gm_z36, gm_z64, gm_z1152, not_true_eq_false, not_false_eq_true, false_implies, true_implies, and_true, implies_true]
    refine ⟨fun z => absurd z (by omega), fun _ => ?_⟩
    cases hM : M j
    · rw [hM] at hx h2
      exact br_t hx h2
    · rw [hM] at hx h2
      exact br_f (by rw [hx]; decide) h2
theorem ev_yr161 (g_types g_methods g_place g_result g_linked g_bad g_high g_refs g_active g_ticks g_code : Int32) (b_above b_ownField b_mType b_mName b_mLength b_bytes b_starts : Nat → Int32) (b_seen b_done : Nat → Int64) (b_heights b_local b_sure b_objType b_objField b_global b_fMethod b_fPc b_fHigh b_fLocal b_fEntry : Nat → Int32) {h tc mc : Nat} {rr : Nat → Nat → Nat} {fs fv mN mL by' : Nat → Int32} (F : FdOK h rr fv) (G : FdY h tc rr fs b_objType b_objField) (P : rl_P tc mc b_above fs b_ownField mN mL by') :
    ∀ d x, x + d = 10 → ∀ ym M, YM ym M → MI h M → ∃ ym', YM ym' (itr (fun _ => itr (fdG rr) 160 0) d x M) ∧ ∀ post : Int32 → SY → Prop, post (nI (cb (itr (fun _ => itr (fdG rr) 160 0) d x M) 10)) (g_types, g_methods, g_place, g_result, g_linked, g_bad, g_high, g_refs, g_active, g_ticks, g_code, b_above, b_ownField, b_mType, b_mName, b_mLength, b_bytes, b_starts, b_seen, b_done, b_heights, b_local, b_sure, b_objType, b_objField, ym', b_global, b_fMethod, b_fPc, b_fHigh, b_fLocal, b_fEntry) → wY_reached_161 post (d + 1) (nI x) g_types g_methods g_place g_result g_linked g_bad g_high g_refs g_active g_ticks g_code b_above b_ownField b_mType b_mName b_mLength b_bytes b_starts b_seen b_done b_heights b_local b_sure b_objType b_objField ym b_global b_fMethod b_fPc b_fHigh b_fLocal b_fEntry := by
  intro d
  induction d with
  | zero =>
    intro x hx ym M hY I
    cases (show x = 10 by omega)
    refine ⟨ym, hY, fun post j => ?_⟩
    unfold wY_reached_161
    exact br_t (by decide) ⟨11, ev_yr243 g_types g_methods g_place g_result g_linked g_bad g_high g_refs g_active g_ticks g_code b_above b_ownField b_mType b_mName b_mLength b_bytes b_starts b_seen b_done b_heights b_local b_sure b_objType b_objField ym b_global b_fMethod b_fPc b_fHigh b_fLocal b_fEntry hY j 10 0 rfl⟩
  | succ d ih =>
    intro x hx ym M hY I
    obtain ⟨ym1, c1, c2⟩ := ev_yr169 g_types g_methods g_place g_result g_linked g_bad g_high g_refs g_active g_ticks g_code b_above b_ownField b_mType b_mName b_mLength b_bytes b_starts b_seen b_done b_heights b_local b_sure b_objType b_objField b_global b_fMethod b_fPc b_fHigh b_fLocal b_fEntry F G P 160 0 rfl ym M hY I
    have I1 : MI h (itr (fdG rr) 160 0 M) := itr_inv _ (MI h) _ _ _ (fun i _ _ s => MI_fdG (fun o ho f h8 h16 => (F.2 o ho f h8 h16).1) i) I
    obtain ⟨ym2, d1, d2⟩ := ih (x + 1) (by omega) ym1 _ c1 I1
    refine ⟨ym2, d1, fun post j => ?_⟩
    unfold wY_reached_161
    exact br_f (nI_ge (b := 10) (by omega) (by decide)) ⟨161, c2 post _ x (d2 post j)⟩
theorem ev_yr2 (g_types g_methods g_place g_result g_linked g_bad g_high g_refs g_active g_ticks g_code : Int32) (b_above b_ownField b_mType b_mName b_mLength b_bytes b_starts : Nat → Int32) (b_seen b_done : Nat → Int64) (b_heights b_local b_sure b_objType b_objField b_global b_fMethod b_fPc b_fHigh b_fLocal b_fEntry : Nat → Int32) (x1 : Int32) : ∀ d j, j + d = 10 → ∀ ym : Nat → Int32, (∀ o, o < j → ym o = 0) → ∃ ym' : Nat → Int32, (∀ o, o < 10 → ym' o = 0) ∧ ∀ post, wY_reached_2 post x1 g_types g_methods g_place g_result g_linked g_bad g_high g_refs g_active g_ticks g_code 1 (nI 10) b_above b_ownField b_mType b_mName b_mLength b_bytes b_starts b_seen b_done b_heights b_local b_sure b_objType b_objField ym' b_global b_fMethod b_fPc b_fHigh b_fLocal b_fEntry → wY_reached_2 post x1 g_types g_methods g_place g_result g_linked g_bad g_high g_refs g_active g_ticks g_code (d + 1) (nI j) b_above b_ownField b_mType b_mName b_mLength b_bytes b_starts b_seen b_done b_heights b_local b_sure b_objType b_objField ym b_global b_fMethod b_fPc b_fHigh b_fLocal b_fEntry := by
  intro d
  induction d with
  | zero =>
    intro j hj ym hY
    cases (show j = 10 by omega)
    exact ⟨ym, hY, fun post J => J⟩
  | succ d ih =>
    intro j hj ym hY
    obtain ⟨ym', c1, c2⟩ := ih (j + 1) (by omega) (upd ym j 0) (fun o ho => by
      by_cases e : o = j
      · subst e; exact pk_us
      · rw [pk_un e]; exact hY o (by omega))
    refine ⟨ym', c1, fun post J => ?_⟩
    unfold wY_reached_2
    simp (disch := omega) only [nI_clamp, gm_clL, gm_in, gm_inL, gm_ml, gm_al, gm_la, gm_sl, nI_add, pk_mul, gm_eqL, gm_leL, gm_ltL, gm_Lle, gm_Llt, gm_eq, gm_le, gm_lt, gm_m1, forall_eq, true_and, Nat.not_lt_zero, Nat.add_sub_cancel, gm_z2, gm_z3, gm_z9, gm_z16, gm_z18, gm_z32, gm_z36, gm_z64, gm_z1152, not_true_eq_false, not_false_eq_true, false_implies, true_implies, and_true, implies_true, gm_nb0]
    exact ⟨fun z => absurd z (by omega), fun _ => c2 post J⟩
theorem ev_mkS (g_types g_methods g_place g_result g_linked g_bad g_high g_refs g_active g_ticks g_code : Int32) (b_above b_ownField b_mType b_mName b_mLength b_bytes b_starts : Nat → Int32) (b_seen b_done : Nat → Int64) (b_heights b_local b_sure b_objType b_objField b_global b_fMethod b_fPc b_fHigh b_fLocal b_fEntry : Nat → Int32) {r : Nat} {M : Nat → Bool} {ym : Nat → Int32} (hr : r ≤ 10) (hY : YM ym M) : ∃ ym', YM ym' (mk1 M r) ∧ ∀ post : SY → Prop, post (g_types, g_methods, g_place, g_result, g_linked, g_bad, g_high, g_refs, g_active, g_ticks, g_code, b_above, b_ownField, b_mType, b_mName, b_mLength, b_bytes, b_starts, b_seen, b_done, b_heights, b_local, b_sure, b_objType, b_objField, ym', b_global, b_fMethod, b_fPc, b_fHigh, b_fLocal, b_fEntry) → wpY_mark post (g_types, g_methods, g_place, g_result, g_linked, g_bad, g_high, g_refs, g_active, g_ticks, g_code, b_above, b_ownField, b_mType, b_mName, b_mLength, b_bytes, b_starts, b_seen, b_done, b_heights, b_local, b_sure, b_objType, b_objField, ym, b_global, b_fMethod, b_fPc, b_fHigh, b_fLocal, b_fEntry) (yR r) := by
  cases r with
  | zero => exact ⟨ym, by rw [mk1_0]; exact hY, fun post J => br_t (by rw [yR_0]; decide) J⟩
  | succ k =>
    refine ⟨upd ym k 1, YM_up hY k, fun post J => ?_⟩
    rw [yR_s]
    refine br_f (nI_pos (by omega)) ⟨vp_in_nI (by omega) (by omega), nm_e ?_⟩
    rw [nI_clamp (by omega), gm_nb1]
    exact J
/-- both sides' marks, counted -/
theorem ev_reached (g_types g_methods g_place g_result g_linked g_bad g_high g_refs g_active g_ticks g_code : Int32) (b_above b_ownField b_mType b_mName b_mLength b_bytes b_starts : Nat → Int32) (b_seen b_done : Nat → Int64) (b_heights b_local b_sure b_objType b_objField b_marked b_global b_fMethod b_fPc b_fHigh b_fLocal b_fEntry : Nat → Int32) {h tc mc n g0 g1 : Nat} {rr rv : Nat → Nat → Nat} {fs fv mN mL by' K fm fa fh sl : Nat → Int32} (F : FdOK h rr fv) (G : FdY h tc rr fs b_objType b_objField) (P : rl_P tc mc b_above fs b_ownField mN mL by')
    (hn : n ≤ 6) (R : RtOK n rv K b_sure fm fa fh sl b_fMethod b_fPc b_fHigh b_fLocal b_fEntry) (e0 : b_global 0 = yR g0) (e1 : b_global 1 = yR g1) (h0 : g0 ≤ h) (h1 : g1 ≤ h) (hr : ∀ f s, rv f s ≤ h) :
    ∃ ym', YM ym' (mfin g0 g1 rv rr n) ∧ ∀ post : Int32 → SY → Prop, post (nI (cb (mfin g0 g1 rv rr n) 10)) (g_types, g_methods, g_place, g_result, g_linked, g_bad, g_high, g_refs, g_active, g_ticks, g_code, b_above, b_ownField, b_mType, b_mName, b_mLength, b_bytes, b_starts, b_seen, b_done, b_heights, b_local, b_sure, b_objType, b_objField, ym', b_global, b_fMethod, b_fPc, b_fHigh, b_fLocal, b_fEntry) → wpY_reached post (g_types, g_methods, g_place, g_result, g_linked, g_bad, g_high, g_refs, g_active, g_ticks, g_code, b_above, b_ownField, b_mType, b_mName, b_mLength, b_bytes, b_starts, b_seen, b_done, b_heights, b_local, b_sure, b_objType, b_objField, b_marked, b_global, b_fMethod, b_fPc, b_fHigh, b_fLocal, b_fEntry) (nI n) := by
  have h10 := F.1
  obtain ⟨ym1, a1, a2⟩ := ev_yr2 g_types g_methods g_place g_result g_linked g_bad g_high g_refs g_active g_ticks g_code b_above b_ownField b_mType b_mName b_mLength b_bytes b_starts b_seen b_done b_heights b_local b_sure b_objType b_objField b_global b_fMethod b_fPc b_fHigh b_fLocal b_fEntry (nI n) 10 0 rfl b_marked (fun o z => absurd z (by omega))
  have b1 : YM ym1 M00 := fun o ho => a1 o ho
  obtain ⟨ym2, c1, c2⟩ := ev_mkS g_types g_methods g_place g_result g_linked g_bad g_high g_refs g_active g_ticks g_code b_above b_ownField b_mType b_mName b_mLength b_bytes b_starts b_seen b_done b_heights b_local b_sure b_objType b_objField b_global b_fMethod b_fPc b_fHigh b_fLocal b_fEntry (r := g0) (by omega) b1
  obtain ⟨ym3, d1, d2⟩ := ev_mkS g_types g_methods g_place g_result g_linked g_bad g_high g_refs g_active g_ticks g_code b_above b_ownField b_mType b_mName b_mLength b_bytes b_starts b_seen b_done b_heights b_local b_sure b_objType b_objField b_global b_fMethod b_fPc b_fHigh b_fLocal b_fEntry (r := g1) (by omega) c1
  obtain ⟨ym4, f1, f2⟩ := ev_yr43 g_types g_methods g_place g_result g_linked g_bad g_high g_refs g_active g_ticks g_code b_above b_ownField b_mType b_mName b_mLength b_bytes b_starts b_seen b_done b_heights b_local b_sure b_objType b_objField b_global b_fMethod b_fPc b_fHigh b_fLocal b_fEntry hn R (n * 9) 0 (by omega) _ _ d1
  obtain ⟨ym5, k1, k2⟩ := ev_yr161 g_types g_methods g_place g_result g_linked g_bad g_high g_refs g_active g_ticks g_code b_above b_ownField b_mType b_mName b_mLength b_bytes b_starts b_seen b_done b_heights b_local b_sure b_objType b_objField b_global b_fMethod b_fPc b_fHigh b_fLocal b_fEntry F G P 10 0 rfl _ _ f1 (MI_fin F h0 h1 hr).1
  refine ⟨ym5, k1, fun post J => ⟨11, a2 post ?_⟩⟩
  unfold wY_reached_2
  refine br_t (by decide) ?_
  rw [e0]
  refine c2 _ ?_
  dsimp only
  rw [e1]
  exact d2 _ ⟨n * 9 + 1, f2 post ⟨11, k2 post J⟩⟩
theorem ev_xmark (f_typeCount f_methodCount f_linked f_faultPlace f_flowHeight f_ticksLeft f_outcome f_latestResult : Int32) (a_typeAbove a_fieldSet a_methodType a_methodName a_codeLength a_bytes a_isStart a_heightAt a_kindsAt a_isWaiting a_flowKinds a_globals a_objectType a_fieldValue a_isMarked a_frameMethod a_frameAt a_frameHeight a_slots : Nat → Int32) {h n g0 g1 : Nat} {rv rr : Nat → Nat → Nat} {su ym yp yh yl ye : Nat → Int32} (F : FdOK h rr a_fieldValue) (hn : n ≤ 6) (R : RtOK n rv a_kindsAt su a_frameMethod a_frameAt a_frameHeight a_slots ym yp yh yl ye) (e0 : a_globals 0 = nI g0) (e1 : a_globals 1 = nI g1) (h0 : g0 ≤ h) (h1 : g1 ≤ h) (hr : ∀ f s, rv f s ≤ h) :
    ∃ xm', XM xm' (mfin g0 g1 rv rr n) ∧ (∀ post : SX → Prop, post (f_typeCount, f_methodCount, f_linked, f_faultPlace, f_flowHeight, nI n, f_ticksLeft, f_outcome, f_latestResult, a_typeAbove, a_fieldSet, a_methodType, a_methodName, a_codeLength, a_bytes, a_isStart, a_heightAt, a_kindsAt, a_isWaiting, a_flowKinds, a_globals, a_objectType, a_fieldValue, xm', a_frameMethod, a_frameAt, a_frameHeight, a_slots) → wpX_markRoots (fun u => wpX_markFields post u) (f_typeCount, f_methodCount, f_linked, f_faultPlace, f_flowHeight, nI n, f_ticksLeft, f_outcome, f_latestResult, a_typeAbove, a_fieldSet, a_methodType, a_methodName, a_codeLength, a_bytes, a_isStart, a_heightAt, a_kindsAt, a_isWaiting, a_flowKinds, a_globals, a_objectType, a_fieldValue, a_isMarked, a_frameMethod, a_frameAt, a_frameHeight, a_slots)) := by
  have h10 := F.1
  obtain ⟨xm1, a1, a2⟩ := ev_markRoots f_typeCount f_methodCount f_linked f_faultPlace f_flowHeight f_ticksLeft f_outcome f_latestResult a_typeAbove a_fieldSet a_methodType a_methodName a_codeLength a_bytes a_isStart a_heightAt a_kindsAt a_isWaiting a_flowKinds a_globals a_objectType a_fieldValue a_isMarked a_frameMethod a_frameAt a_frameHeight a_slots hn R e0 e1 (by omega) (by omega)
  obtain ⟨xm2, b1, b2⟩ := ev_mf2 f_typeCount f_methodCount f_linked f_faultPlace f_flowHeight (nI n) f_ticksLeft f_outcome f_latestResult a_typeAbove a_fieldSet a_methodType a_methodName a_codeLength a_bytes a_isStart a_heightAt a_kindsAt a_isWaiting a_flowKinds a_globals a_objectType a_fieldValue a_frameMethod a_frameAt a_frameHeight a_slots F 10 0 rfl _ _ a1 (MI_fin F h0 h1 hr).1
  exact ⟨xm2, b1, fun post J => a2 _ ⟨11, b2 post J⟩⟩
/-- from the relation on the heap -/
theorem hp_F {h tc : Nat} {fs gl ot fv yg yt yf : Nat → Int32} (H : rl_H h tc fs gl ot fv yg yt yf) : FdOK h (fun o f => gm_n (fv ((o + 1) * 16 + f))) fv ∧ FdY h tc (fun o f => gm_n (fv ((o + 1) * 16 + f))) fs yt yf ∧ ∃ g0 g1, g0 ≤ h ∧ g1 ≤ h ∧ gl 0 = nI g0 ∧ gl 1 = nI g1 ∧ yg 0 = yR g0 ∧ yg 1 = yR g1 := by
  obtain ⟨h10, hg, ho⟩ := H
  refine ⟨⟨h10, fun o h f h8 h16 => ?_⟩, fun o h => ?_, ?_⟩
  · obtain ⟨t, ht, t1, t2, f1, f2⟩ := ho o h
    obtain ⟨r, hr, q1, q2, q3⟩ := f2 f h8 h16
    dsimp only
    rw [q1, gp_nI (by omega)]
    exact ⟨hr, rfl⟩
  · obtain ⟨t, ht, t1, t2, f1, f2⟩ := ho o h
    refine ⟨t, ht, t2, fun f h8 h16 => ?_⟩
    obtain ⟨r, hr, q1, q2, q3⟩ := f2 f h8 h16
    dsimp only
    rw [q1, gp_nI (by omega)]
    exact ⟨q2, q3⟩
  · obtain ⟨r0, hr0, a0, b0⟩ := hg 0 (by omega)
    obtain ⟨r1, hr1, a1, b1⟩ := hg 1 (by omega)
    exact ⟨r0, r1, hr0, hr1, a0, a1, b0, b1⟩
theorem i_vc_reachable {k : Nat} {u : SX} {v : SY} (I : i_Rel k u v) (hk : k + 4 ≤ 2048) : wpX_reachable (fun r u' => wpY_reachable (fun r' v' => r' = r ∧ i_Rel (k + 4) u' v') v) u := by
  obtain ⟨f_typeCount, f_methodCount, f_linked, f_faultPlace, f_flowHeight, f_active, f_ticksLeft, f_outcome, f_latestResult, a_typeAbove, a_fieldSet, a_methodType, a_methodName, a_codeLength, a_bytes, a_isStart, a_heightAt, a_kindsAt, a_isWaiting, a_flowKinds, a_globals, a_objectType, a_fieldValue, a_isMarked, a_frameMethod, a_frameAt, a_frameHeight, a_slots⟩ := u
  obtain ⟨g_types, g_methods, g_place, g_result, g_linked, g_bad, g_high, g_refs, g_active, g_ticks, g_code, b_above, b_ownField, b_mType, b_mName, b_mLength, b_bytes, b_starts, b_seen, b_done, b_heights, b_local, b_sure, b_objType, b_objField, b_marked, b_global, b_fMethod, b_fPc, b_fHigh, b_fLocal, b_fEntry⟩ := v
  obtain ⟨tc, mc, h, rfl, rfl, rfl, rfl, rfl, hl, rfl, hfp, rfl, rfl, rfl, rfl, rfl, rfl, rfl, P, KB, H, hh, hL⟩ := I
  obtain ⟨F, G, g0, g1, h0, h1, e0, e1, y0, y1⟩ := hp_F H
  have R : RtOK 0 (fun _ _ => 0) a_kindsAt b_sure a_frameMethod a_frameAt a_frameHeight a_slots b_fMethod b_fPc b_fHigh b_fLocal b_fEntry := fun f z => absurd z (by omega)
  obtain ⟨xm, a1, a2⟩ := ev_xmark (nI tc) (nI mc) f_linked f_faultPlace f_flowHeight f_ticksLeft f_outcome f_latestResult a_typeAbove a_fieldSet a_methodType a_methodName a_codeLength a_bytes a_isStart a_heightAt a_kindsAt a_isWaiting a_flowKinds a_globals a_objectType a_fieldValue a_isMarked a_frameMethod a_frameAt a_frameHeight a_slots F (by omega) R e0 e1 h0 h1 (fun _ _ => by omega)
  obtain ⟨ym, b1, b2⟩ := ev_reached (nI tc) (nI mc) f_faultPlace f_latestResult f_linked g_bad g_high g_refs g_active g_ticks g_code a_typeAbove b_ownField a_methodType a_methodName a_codeLength a_bytes b_starts b_seen b_done b_heights b_local b_sure b_objType b_objField b_marked b_global b_fMethod b_fPc b_fHigh b_fLocal b_fEntry F G P (by omega) R y0 y1 h0 h1 (fun _ _ => by omega)
  unfold wpX_reachable
  refine a2 _ (ev_countMarked (nI tc) (nI mc) f_linked f_faultPlace f_flowHeight 0 f_ticksLeft f_outcome f_latestResult a_typeAbove a_fieldSet a_methodType a_methodName a_codeLength a_bytes a_isStart a_heightAt a_kindsAt a_isWaiting a_flowKinds a_globals a_objectType a_fieldValue xm a_frameMethod a_frameAt a_frameHeight a_slots a1 ?_)
  unfold wpY_reachable
  exact b2 _ ⟨rfl, tc, mc, h, rfl, rfl, rfl, rfl, rfl, hl, rfl, hfp, rfl, rfl, rfl, rfl, rfl, rfl, rfl, P, KB, H, hh, hL⟩
