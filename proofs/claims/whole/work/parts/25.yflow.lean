theorem y_stepB (g_types g_methods g_place g_result g_linked g_high g_refs g_active g_ticks g_code : Int32) (b_above b_ownField b_mType b_mName b_mLength b_bytes b_starts : Nat → Int32) (b_seen b_done : Nat → Int64) (b_heights b_local b_sure b_objType b_objField b_marked b_global b_fMethod b_fPc b_fHigh b_fLocal b_fEntry : Nat → Int32) {post : SY → Prop} {m L tc p : Nat} {D : Nat → Nat} {S : Nat → Prop} (F : fo_OK tc L D S) (hm : m < 8) (hD : ∀ p, p < 33 → b_bytes (m * 32 + p) = nI (D p) ∧ D p < 256) (hp : p < L) (hS : S p)
    (J : ∀ (hi re : Int32) (lo : Nat → Int32), post (g_types, g_methods, g_place, g_result, g_linked, 1, hi, re, g_active, g_ticks, g_code, b_above, b_ownField, b_mType, b_mName, b_mLength, b_bytes, b_starts, b_seen, b_done, b_heights, lo, b_sure, b_objType, b_objField, b_marked, b_global, b_fMethod, b_fPc, b_fHigh, b_fLocal, b_fEntry)) : wpY_step post (g_types, g_methods, g_place, g_result, g_linked, 1, g_high, g_refs, g_active, g_ticks, g_code, b_above, b_ownField, b_mType, b_mName, b_mLength, b_bytes, b_starts, b_seen, b_done, b_heights, b_local, b_sure, b_objType, b_objField, b_marked, b_global, b_fMethod, b_fPc, b_fHigh, b_fLocal, b_fEntry) (nI m) (nI p) := by
  have hL := F.2.1
  obtain ⟨f1, f2, f3, f4, f5⟩ := F.2.2.2 _ hp hS
  have hb4 := fo_b4 F hp hS
  obtain ⟨eD, hD2⟩ := hD p (by omega)
  obtain ⟨eD1, hD3⟩ := hD (p + 1) (by omega)
  rw [show m * 32 + (p + 1) = m * 32 + p + 1 by omega] at eD1
  unfold wpY_step
  simp (disch := omega) only [nI_clamp, gm_clL, gm_in, gm_inL, gm_ml, gm_al, gm_la, gm_sl, nI_add, pk_mul, gm_eqL, gm_leL, gm_ltL, gm_Lle, gm_Llt, gm_eq, gm_le, gm_lt, gm_m1, forall_eq, true_and, Nat.not_lt_zero, Nat.add_sub_cancel, gm_z2, gm_z3, gm_z9, gm_z16, gm_z18, gm_z32, gm_z36, gm_z64, gm_z1152, not_true_eq_false, not_false_eq_true, false_implies, true_implies, and_true, implies_true, eD]
  refine ⟨fun z => ?_, fun z => ?_⟩
  · exact sb_35 g_types g_methods g_place g_result g_linked g_high g_refs g_active g_ticks g_code b_above b_ownField b_mType b_mName b_mLength b_bytes b_starts b_seen b_done b_heights b_local b_sure b_objType b_objField b_marked b_global b_fMethod b_fPc b_fHigh b_fLocal b_fEntry (b := 0) (by omega) hm (fun _ => by omega) J
  · rw [eD1]
    exact ⟨vp_in_nI (by omega) (by omega), sb_35 g_types g_methods g_place g_result g_linked g_high g_refs g_active g_ticks g_code b_above b_ownField b_mType b_mName b_mLength b_bytes b_starts b_seen b_done b_heights b_local b_sure b_objType b_objField b_marked b_global b_fMethod b_fPc b_fHigh b_fLocal b_fEntry (by omega) hm (fun z => by rcases z with z | z; exact hb4.1 z; exact hb4.2 z) J⟩
theorem YI_open {m L nm st : Nat} {D : Nat → Nat} {H su : Nat → Int32} {se dn dn' : Nat → Int64} (I : YI m L nm D 99999 H se dn su) (hs : sb se st) (hst : st < 36864) (k : ∀ st', sb dn' st' ↔ sb dn st' ∨ st' = st) : YI m L nm D st H se dn' su := by
  obtain ⟨i1, i2, i3, i4, i5, i6⟩ := I
  refine ⟨i1, i2, i3, fun q h1 h2 => ?_, i5, fun q h1 h2 hne h hh e => ?_⟩
  · rcases (k q).mp h2 with z | z
    · exact i4 q h1 z
    · subst z; exact hs
  · rcases (k q).mp h2 with z | z
    · exact i6 q h1 z (by omega) h hh e
    · exact absurd z hne
theorem yg (g_types g_methods g_place g_result g_linked g_active g_ticks g_code : Int32) (b_above b_ownField b_mType b_mName b_mLength b_bytes b_starts b_objType b_objField b_marked b_global b_fMethod b_fPc b_fHigh b_fLocal b_fEntry : Nat → Int32) {post : SY → Prop} {m L nm tc w c0 : Nat} {D : Nat → Nat} {S : Nat → Prop} {su0 : Nat → Int32} {se0 dn0 : Nat → Int64} (F : fo_OK tc L D S) (hm : m < 8) (eL : b_mLength m = nI L) (hn : nm < 16) (eN : b_mName m = nI nm) (hD : ∀ p, p < 33 → b_bytes (m * 32 + p) = nI (D p) ∧ D p < 256) (hw : w < 576) (hne : se0 w ≠ dn0 w)
    (J : ∀ (bad hi re : Int32) (lo H : Nat → Int32) (se dn : Nat → Int64) (su : Nat → Int32), GI m L nm D S su0 bad 99999 H se dn su → c0 < cnP (sb dn) 36864 → post (g_types, g_methods, g_place, g_result, g_linked, bad, hi, re, g_active, g_ticks, g_code, b_above, b_ownField, b_mType, b_mName, b_mLength, b_bytes, b_starts, se, dn, H, lo, su, b_objType, b_objField, b_marked, b_global, b_fMethod, b_fPc, b_fHigh, b_fLocal, b_fEntry)) :
    ∀ d i, i + d = 64 → ∀ (bad hi re : Int32) (lo H : Nat → Int32) (se dn : Nat → Int64) (su : Nat → Int32), GI m L nm D S su0 bad 99999 H se dn su → c0 ≤ cnP (sb dn) 36864 → (c0 < cnP (sb dn) 36864 ∨ (se = se0 ∧ dn = dn0 ∧ ∀ j, j < i → lb (se w) j = lb (dn w) j)) → wY_goOn_2 post (nI m) (nI w) (d + 1) (nI i) g_types g_methods g_place g_result g_linked bad hi re g_active g_ticks g_code b_above b_ownField b_mType b_mName b_mLength b_bytes b_starts se dn H lo su b_objType b_objField b_marked b_global b_fMethod b_fPc b_fHigh b_fLocal b_fEntry := by
  have hL := F.2.1
  intro d
  induction d with
  | zero =>
    intro i hi bad hi' re lo H se dn su G h0 h1
    cases (show i = 64 by omega)
    unfold wY_goOn_2
    refine br_t (by decide) (J _ _ _ _ _ _ _ _ G ?_)
    rcases h1 with z | ⟨rfl, rfl, z⟩
    · exact z
    · exact absurd (lb_ext z) hne
  | succ d ih =>
    intro i hi bad hi' re lo H se dn su G h0 h1
    have dsub : ∀ st, st < 36864 → sb dn st → sb se st := by
      rcases G.1 with ⟨-, I, -⟩ | ⟨-, -, B⟩
      · exact I.2.2.2.1
      · exact B.2
    have q1 : (w * 64 + i) / 64 = w := by omega
    have q2 : (w * 64 + i) % 64 = i := by omega
    by_cases hb : lb (se w) i = lb (dn w) i
    · unfold wY_goOn_2
      simp (disch := omega) only [nI_clamp, gm_clL, gm_in, gm_inL, gm_ml, gm_al, gm_la, gm_sl, nI_add, pk_mul, gm_eqL, gm_leL, gm_ltL, gm_Lle, gm_Llt, gm_eq, gm_le, gm_lt, gm_m1, forall_eq, true_and, Nat.not_lt_zero, Nat.add_sub_cancel, gm_z2, gm_z3, gm_z9, gm_z16, gm_z18, gm_z32, gm_z36, gm_z64, gm_z1152, not_true_eq_false, not_false_eq_true, false_implies, true_implies, and_true, implies_true, lb_tEq]
      refine ⟨fun z => absurd z (by omega), fun _ => br_t hb (ih (i + 1) (by omega) _ _ _ _ _ _ _ _ G h0 ?_)⟩
      rcases h1 with z | ⟨z1, z2, z⟩
      · exact Or.inl z
      · refine Or.inr ⟨z1, z2, fun j hj => ?_⟩
        by_cases e : j = i
        · subst e; exact hb
        · exact z j (by omega)
    · have hdn : ¬ sb dn (w * 64 + i) := fun z => by
        have z2 := dsub _ (by omega) z
        unfold sb at z z2
        rw [q1, q2] at z z2
        exact hb (by rw [z, z2])
      have hse : sb se (w * 64 + i) := by
        unfold sb at hdn ⊢
        rw [q1, q2] at hdn ⊢
        cases h2 : lb (se w) i
        · cases h3 : lb (dn w) i
          · rw [h2, h3] at hb; exact absurd rfl hb
          · exact absurd h3 hdn
        · rfl
      have k := sb_set dn (st := w * 64 + i)
      rw [q1, q2] at k
      generalize hdn' : vp_updL dn w (dn w ||| ((1 : Int64) <<< ((nI i).toInt64 &&& 63))) = dn' at k
      have cnt : cnP (sb dn) 36864 < cnP (sb dn') 36864 := cnP_lt 36864 (fun st _ z => (k st).mpr (Or.inl z)) ⟨w * 64 + i, by omega, (k _).mpr (Or.inr rfl), hdn⟩
      have hp32 : wy_p (w * 64 + i) < 32 := by unfold wy_p; omega
      -- going on
      have nxt : ∀ (bad hi' re : Int32) (lo H : Nat → Int32) (se : Nat → Int64) (su : Nat → Int32), GI m L nm D S su0 bad 99999 H se dn' su → wY_goOn_2 post (nI m) (nI w) (d + 1) (nI (i + 1)) g_types g_methods g_place g_result g_linked bad hi' re g_active g_ticks g_code b_above b_ownField b_mType b_mName b_mLength b_bytes b_starts se dn' H lo su b_objType b_objField b_marked b_global b_fMethod b_fPc b_fHigh b_fLocal b_fEntry := fun bad hi' re lo H se su G' => ih (i + 1) (by omega) _ _ _ _ _ _ _ _ G' (by omega) (Or.inl (by omega))
      generalize hst : w * 64 + i = st at *
      have hst36 : st < 36864 := by omega
      have er : st / 36 - st / 36 / 32 * 32 = wy_r st := by unfold wy_r; omega
      have ep : st / 1152 = wy_p st := rfl
      have e3 : st - st / 3 * 3 = wy_c st 3 := by show _ = st % 3; omega
      have e2 : st / 3 - st / 3 / 3 * 3 = wy_c st 2 := by show _ = st / 3 % 3; omega
      have e1 : st / 9 - st / 9 / 2 * 2 = wy_c st 1 := by show _ = st / 9 % 2; omega
      have e0 : st / 18 - st / 18 / 2 * 2 = wy_c st 0 := by show _ = st / 18 % 2; omega
      have hl : ∀ s, s < 4 → upd (upd (upd (upd lo 3 (nI (wy_c st 3))) 2 (nI (wy_c st 2))) 1 (nI (wy_c st 1))) 0 (nI (wy_c st 0)) s = nI (wy_c st s) := by
        intro s hs
        rcases (by omega : s = 0 ∨ s = 1 ∨ s = 2 ∨ s = 3) with rfl | rfl | rfl | rfl <;> rfl
      unfold wY_goOn_2
      simp (disch := omega) only [nI_clamp, gm_clL, gm_in, gm_inL, gm_ml, gm_al, gm_la, gm_sl, nI_add, pk_mul, gm_eqL, gm_leL, gm_ltL, gm_Lle, gm_Llt, gm_eq, gm_le, gm_lt, gm_m1, forall_eq, true_and, Nat.not_lt_zero, Nat.add_sub_cancel, gm_z2, gm_z3, gm_z9, gm_z16, gm_z18, gm_z32, gm_z36, gm_z64, gm_z1152, not_true_eq_false, not_false_eq_true, false_implies, true_implies, and_true, implies_true, lb_tEq, gm_dl, gm_sb, hst, hdn', er, e0, e1, e2, e3]
      rw [ep]
      refine ⟨fun z => absurd z (by omega), fun _ => br_f hb ?_⟩
      rcases G.1 with ⟨rfl, I, hini⟩ | ⟨rfl, wb, B⟩
      · obtain ⟨h, h5, eH, hway⟩ := I.2.1 st hst36 hse
        rw [eH]
        exact y_step g_types g_methods g_place g_result g_linked g_active g_ticks g_code b_above b_ownField b_mType b_mName b_mLength b_bytes b_starts se dn' H su b_objType b_objField b_marked b_global b_fMethod b_fPc b_fHigh b_fLocal b_fEntry F hm eL hn eN hD h5 (YI_open I hse hst36 k) G.2 hst36 eH hway hl hini (fun bad hi re lo H' se' su' G' _ => nxt _ _ _ _ _ _ _ G')
      · obtain ⟨b1, b2⟩ := B.1 st hst36 hse
        refine y_stepB g_types g_methods g_place g_result g_linked _ _ g_active g_ticks g_code b_above b_ownField b_mType b_mName b_mLength b_bytes b_starts se dn' H _ su b_objType b_objField b_marked b_global b_fMethod b_fPc b_fHigh b_fLocal b_fEntry F hm hD b1 b2 (fun hi re lo => nxt _ _ _ _ _ _ _ ⟨Or.inr ⟨rfl, wb, B.1, fun q h1 h2 => ?_⟩, G.2⟩)
        rcases (k q).mp h2 with z | z
        · exact B.2 q h1 z
        · subst z; exact hse
