theorem y_154 (g_types g_methods g_place g_result g_linked g_active g_ticks g_code : Int32) (b_above b_ownField b_mType b_mName b_mLength b_bytes b_starts b_objType b_objField b_marked b_global b_fMethod b_fPc b_fHigh b_fLocal b_fEntry : Nat → Int32) {post : Int32 → SY → Prop} {J132 : Int32 → Int32 → Int32 → Int32 → Int32 → Int32 → Int32 → Int32 → Int32 → Int32 → Int32 → Int32 → Int32 → (Nat → Int32) → (Nat → Int32) → (Nat → Int32) → (Nat → Int32) → (Nat → Int32) → (Nat → Int32) → (Nat → Int32) → (Nat → Int64) → (Nat → Int64) → (Nat → Int32) → (Nat → Int32) → (Nat → Int32) → (Nat → Int32) → (Nat → Int32) → (Nat → Int32) → (Nat → Int32) → (Nat → Int32) → (Nat → Int32) → (Nat → Int32) → (Nat → Int32) → (Nat → Int32) → Prop} {m L nm tc c0 r : Nat} {D : Nat → Nat} {S : Nat → Prop} {su0 : Nat → Int32} (F : fo_OK tc L D S) (hm : m < 8) (eL : b_mLength m = nI L) (hn : nm < 16) (eN : b_mName m = nI nm) (hD : ∀ p, p < 33 → b_bytes (m * 32 + p) = nI (D p) ∧ D p < 256)
    (J : ∀ (x2 bad hi re : Int32) (lo H : Nat → Int32) (se dn : Nat → Int64) (su : Nat → Int32), GI m L nm D S su0 bad 99999 H se dn su → c0 ≤ cnP (sb dn) 36864 → (x2 = 0 ∨ x2 = 1) → (x2 = 1 → c0 < cnP (sb dn) 36864) → (x2 = 0 → ∀ w, w < 576 → se w = dn w) → J132 x2 (nI (r + 1)) g_types g_methods g_place g_result g_linked bad hi re g_active g_ticks g_code b_above b_ownField b_mType b_mName b_mLength b_bytes b_starts se dn H lo su b_objType b_objField b_marked b_global b_fMethod b_fPc b_fHigh b_fLocal b_fEntry) :
    ∀ d w, w + d = 576 → ∀ (x2 bad hi re : Int32) (lo H : Nat → Int32) (se dn : Nat → Int64) (su : Nat → Int32), GI m L nm D S su0 bad 99999 H se dn su → c0 ≤ cnP (sb dn) 36864 → (x2 = 0 ∨ x2 = 1) → (x2 = 1 → c0 < cnP (sb dn) 36864) → (x2 = 0 → ∀ w', w' < w → se w' = dn w') → wY_flowFault_154 post J132 (nI m) (nI r) (d + 1) x2 (nI w) g_types g_methods g_place g_result g_linked bad hi re g_active g_ticks g_code b_above b_ownField b_mType b_mName b_mLength b_bytes b_starts se dn H lo su b_objType b_objField b_marked b_global b_fMethod b_fPc b_fHigh b_fLocal b_fEntry := by
  intro d
  induction d with
  | zero =>
    intro w hw x2 bad hi re lo H se dn su G h0 hx h1 h2
    cases (show w = 576 by omega)
    unfold wY_flowFault_154
    exact br_t (by decide) (nm_r (nI_1 r) (J _ _ _ _ _ _ _ _ _ G h0 hx h1 h2))
  | succ d ih =>
    intro w hw x2 bad hi re lo H se dn su G h0 hx h1 h2
    unfold wY_flowFault_154
    refine br_f (nI_ge (b := 576) (by omega) (by decide)) ⟨vp_in_nI (by omega) (by omega), vp_in_nI (by omega) (by omega), ?_⟩
    rw [nI_clamp (by omega)]
    by_cases e : se w = dn w
    · refine br_t e (nm_r (nI_1 w) (ih (w + 1) (by omega) _ _ _ _ _ _ _ _ _ G h0 hx h1 (fun z w' hw' => ?_)))
      by_cases e2 : w' = w
      · subst e2; exact e
      · exact h2 z w' (by omega)
    · refine br_f e ⟨65, yg g_types g_methods g_place g_result g_linked g_active g_ticks g_code b_above b_ownField b_mType b_mName b_mLength b_bytes b_starts b_objType b_objField b_marked b_global b_fMethod b_fPc b_fHigh b_fLocal b_fEntry (c0 := cnP (sb dn) 36864) (se0 := se) (dn0 := dn) F hm eL hn eN hD (by omega) e (fun bad hi re lo H se' dn' su G' hc => nm_r (nI_1 w) (ih (w + 1) (by omega) _ _ _ _ _ _ _ _ _ G' (by omega) (Or.inr rfl) (fun _ => by omega) (fun z => absurd z (by decide)))) 64 0 rfl _ _ _ _ _ _ _ _ G (Nat.le_refl _) (Or.inr ⟨rfl, rfl, fun j z => absurd z (by omega)⟩)⟩
theorem y_132 (g_types g_methods g_place g_result g_linked g_active g_ticks g_code : Int32) (b_above b_ownField b_mType b_mName b_mLength b_bytes b_starts b_objType b_objField b_marked b_global b_fMethod b_fPc b_fHigh b_fLocal b_fEntry : Nat → Int32) {post : Int32 → SY → Prop} {m L nm tc : Nat} {D : Nat → Nat} {S : Nat → Prop} {su0 : Nat → Int32} (F : fo_OK tc L D S) (hm : m < 8) (eL : b_mLength m = nI L) (hn : nm < 16) (eN : b_mName m = nI nm) (hD : ∀ p, p < 33 → b_bytes (m * 32 + p) = nI (D p) ∧ D p < 256)
    (J : ∀ (bad hi re : Int32) (lo H : Nat → Int32) (se dn : Nat → Int64) (su : Nat → Int32), GI m L nm D S su0 bad 99999 H se dn su → (bad = 0 → ∀ w, w < 576 → se w = dn w) → post bad (g_types, g_methods, g_place, g_result, g_linked, bad, hi, re, g_active, g_ticks, g_code, b_above, b_ownField, b_mType, b_mName, b_mLength, b_bytes, b_starts, se, dn, H, lo, su, b_objType, b_objField, b_marked, b_global, b_fMethod, b_fPc, b_fHigh, b_fLocal, b_fEntry)) :
    ∀ d r, r + d = 36900 → ∀ (x2 bad hi re : Int32) (lo H : Nat → Int32) (se dn : Nat → Int64) (su : Nat → Int32), GI m L nm D S su0 bad 99999 H se dn su → (x2 = 0 ∨ x2 = 1) → (x2 = 1 → r ≤ cnP (sb dn) 36864) → (x2 = 0 → ∀ w, w < 576 → se w = dn w) → wY_flowFault_132 post (nI m) (d + 1) x2 (nI r) g_types g_methods g_place g_result g_linked bad hi re g_active g_ticks g_code b_above b_ownField b_mType b_mName b_mLength b_bytes b_starts se dn H lo su b_objType b_objField b_marked b_global b_fMethod b_fPc b_fHigh b_fLocal b_fEntry := by
  have nb : ∀ (bad : Int32) (e : Nat) (H : Nat → Int32) (se dn : Nat → Int64) (su : Nat → Int32), GI m L nm D S su0 bad e H se dn su → narrow .boolean (Value.int bad) = Value.int bad := by
    intro bad e H se dn su G
    rcases G.1 with ⟨rfl, -⟩ | ⟨rfl, -⟩ <;> rfl
  intro d
  induction d with
  | zero =>
    intro r hr x2 bad hi re lo H se dn su G hx h1 h0
    have hc := cnP_le (sb dn) 36864
    rcases hx with e0 | e1
    · unfold wY_flowFault_132
      exact br_f (nI_ge (b := 40000) (by omega) (by decide)) (br_t e0 ⟨nb _ _ _ _ _ _ G, J _ _ _ _ _ _ _ _ G (fun _ => h0 e0)⟩)
    · have := h1 e1
      omega
  | succ d ih =>
    intro r hr x2 bad hi re lo H se dn su G hx h1 h0
    have hc := cnP_le (sb dn) 36864
    rcases hx with e0 | e1
    · unfold wY_flowFault_132
      exact br_f (nI_ge (b := 40000) (by omega) (by decide)) (br_t e0 ⟨nb _ _ _ _ _ _ G, J _ _ _ _ _ _ _ _ G (fun _ => h0 e0)⟩)
    · have hr1 := h1 e1
      by_cases eb : bad = 0
      · -- one round, whatever it gives
        have key : ∀ n, (∀ (x2 bad hi re : Int32) (lo H : Nat → Int32) (se' dn' : Nat → Int64) (su : Nat → Int32), GI m L nm D S su0 bad 99999 H se' dn' su → (x2 = 0 ∨ x2 = 1) → (x2 = 1 → r + 1 ≤ cnP (sb dn') 36864) → (x2 = 0 → ∀ w, w < 576 → se' w = dn' w) → wY_flowFault_132 post (nI m) n x2 (nI (r + 1)) g_types g_methods g_place g_result g_linked bad hi re g_active g_ticks g_code b_above b_ownField b_mType b_mName b_mLength b_bytes b_starts se' dn' H lo su b_objType b_objField b_marked b_global b_fMethod b_fPc b_fHigh b_fLocal b_fEntry) → wY_flowFault_132 post (nI m) (n + 1) x2 (nI r) g_types g_methods g_place g_result g_linked bad hi re g_active g_ticks g_code b_above b_ownField b_mType b_mName b_mLength b_bytes b_starts se dn H lo su b_objType b_objField b_marked b_global b_fMethod b_fPc b_fHigh b_fLocal b_fEntry := by
          intro n K
          unfold wY_flowFault_132
          refine br_f (nI_ge (b := 40000) (by omega) (by decide)) (br_f (by rw [e1]; decide) (br_t eb ⟨577, ?_⟩))
          exact y_154 g_types g_methods g_place g_result g_linked g_active g_ticks g_code b_above b_ownField b_mType b_mName b_mLength b_bytes b_starts b_objType b_objField b_marked b_global b_fMethod b_fPc b_fHigh b_fLocal b_fEntry (c0 := cnP (sb dn) 36864) F hm eL hn eN hD (fun x2 bad hi re lo H se' dn' su G' c1 c2 c3 c4 => K _ _ _ _ _ _ _ _ _ G' c2 (fun z => by have := c3 z; omega) c4) 576 0 rfl _ _ _ _ _ _ _ _ _ G (Nat.le_refl _) (Or.inl rfl) (fun z => absurd z (by decide)) (fun _ w' z => absurd z (by omega))
        exact key (d + 1) (fun x2 bad hi re lo H se' dn' su G' c1 c2 c3 => ih (r + 1) (by omega) _ _ _ _ _ _ _ _ _ G' c1 c2 c3)
      · unfold wY_flowFault_132
        exact br_f (nI_ge (b := 40000) (by omega) (by decide)) (br_f (by rw [e1]; decide) (br_f eb ⟨nb _ _ _ _ _ _ G, J _ _ _ _ _ _ _ _ G (fun z => absurd z eb)⟩))
/-! ===== the start ===== -/
theorem y_2 (g_types g_methods g_place g_result g_linked g_bad g_high g_refs g_active g_ticks g_code : Int32) (b_above b_ownField b_mType b_mName b_mLength b_bytes b_starts b_heights b_local b_sure b_objType b_objField b_marked b_global b_fMethod b_fPc b_fHigh b_fLocal b_fEntry : Nat → Int32) {post : Int32 → SY → Prop} {x1 : Int32} (J : ∀ se dn : Nat → Int64, (∀ w, w < 576 → se w = 0 ∧ dn w = 0) → ∃ n31 : Nat, wY_flowFault_31 post x1 g_types g_methods g_place g_result g_linked g_bad g_high g_refs g_active g_ticks g_code n31 0 b_above b_ownField b_mType b_mName b_mLength b_bytes b_starts se dn b_heights b_local b_sure b_objType b_objField b_marked b_global b_fMethod b_fPc b_fHigh b_fLocal b_fEntry) : ∀ d j, j + d = 576 → ∀ se dn : Nat → Int64, (∀ w, w < j → se w = 0 ∧ dn w = 0) → wY_flowFault_2 post x1 g_types g_methods g_place g_result g_linked g_bad g_high g_refs g_active g_ticks g_code (d + 1) (nI j) b_above b_ownField b_mType b_mName b_mLength b_bytes b_starts se dn b_heights b_local b_sure b_objType b_objField b_marked b_global b_fMethod b_fPc b_fHigh b_fLocal b_fEntry := by
  intro d
  induction d with
  | zero =>
    intro j hj se dn h
    cases (show j = 576 by omega)
    unfold wY_flowFault_2
    exact br_t (by decide) (J se dn h)
  | succ d ih =>
    intro j hj se dn h
    unfold wY_flowFault_2
    simp (disch := omega) only [nI_clamp, gm_clL, gm_in, gm_inL, gm_ml, gm_al, gm_la, gm_sl, nI_add, pk_mul, gm_eqL, gm_leL, gm_ltL, gm_Lle, gm_Llt, gm_eq, gm_le, gm_lt, gm_m1, forall_eq, true_and, Nat.not_lt_zero, Nat.add_sub_cancel, gm_z2, gm_z3, gm_z9, gm_z16, gm_z18, gm_z32, gm_z36, gm_z64, gm_z1152, not_true_eq_false, not_false_eq_true, false_implies, true_implies, and_true, implies_true]
    refine ⟨fun z => absurd z (by omega), fun _ => ih (j + 1) (by omega) _ _ (fun w hw => ?_)⟩
    by_cases e : w = j
    · subst e; exact ⟨pk_uLs, pk_uLs⟩
    · rw [pk_uLn e, pk_uLn e]; exact h w (by omega)
theorem y_31 (g_types g_methods g_place g_result g_linked g_bad g_high g_refs g_active g_ticks g_code : Int32) (b_above b_ownField b_mType b_mName b_mLength b_bytes b_starts : Nat → Int32) (b_seen b_done : Nat → Int64) (b_local b_objType b_objField b_marked b_global b_fMethod b_fPc b_fHigh b_fLocal b_fEntry : Nat → Int32) {post : Int32 → SY → Prop} {m : Nat} {su0 : Nat → Int32} (hm : m < 8) (J : ∀ H su : Nat → Int32, (∀ q, q < 32 → H q = -1 ∧ su (m * 32 + q) = 511) → (∀ i, (i < m * 32 ∨ m * 32 + 32 ≤ i) → su i = su0 i) → wY_flowFault_31 post (nI m) g_types g_methods g_place g_result g_linked g_bad g_high g_refs g_active g_ticks g_code 1 (nI 32) b_above b_ownField b_mType b_mName b_mLength b_bytes b_starts b_seen b_done H b_local su b_objType b_objField b_marked b_global b_fMethod b_fPc b_fHigh b_fLocal b_fEntry) : ∀ d j, j + d = 32 → ∀ H su : Nat → Int32, (∀ q, q < j → H q = -1 ∧ su (m * 32 + q) = 511) → (∀ i, (i < m * 32 ∨ m * 32 + 32 ≤ i) → su i = su0 i) → wY_flowFault_31 post (nI m) g_types g_methods g_place g_result g_linked g_bad g_high g_refs g_active g_ticks g_code (d + 1) (nI j) b_above b_ownField b_mType b_mName b_mLength b_bytes b_starts b_seen b_done H b_local su b_objType b_objField b_marked b_global b_fMethod b_fPc b_fHigh b_fLocal b_fEntry := by
  intro d
  induction d with
  | zero =>
    intro j hj H su h1 h2
    cases (show j = 32 by omega)
    exact J H su h1 h2
  | succ d ih =>
    intro j hj H su h1 h2
    unfold wY_flowFault_31
    simp (disch := omega) only [nI_clamp, gm_clL, gm_in, gm_inL, gm_ml, gm_al, gm_la, gm_sl, nI_add, pk_mul, gm_eqL, gm_leL, gm_ltL, gm_Lle, gm_Llt, gm_eq, gm_le, gm_lt, gm_m1, forall_eq, true_and, Nat.not_lt_zero, Nat.add_sub_cancel, gm_z2, gm_z3, gm_z9, gm_z16, gm_z18, gm_z32, gm_z36, gm_z64, gm_z1152, not_true_eq_false, not_false_eq_true, false_implies, true_implies, and_true, implies_true]
    refine ⟨fun z => absurd z (by omega), fun _ => ih (j + 1) (by omega) _ _ (fun q hq => ?_) (fun i hi => ?_)⟩
    · by_cases e : q = j
      · subst e; exact ⟨pk_us, pk_us⟩
      · rw [pk_un e, pk_un (by omega)]; exact h1 q (by omega)
    · rw [pk_un (by omega)]; exact h2 i hi
theorem bt_511 : ∀ s, s < 9 → bt 511 s = true := by decide +kernel
theorem wy_i36 (nm : Nat) : wy_i nm < 36864 := wy_lt (by omega) (by omega) (by omega) (by split <;> omega) (by omega) (by omega)
/-- the reference's check of the flow -/
theorem yf_all (g_types g_methods g_place g_result g_linked g_bad g_high g_refs g_active g_ticks g_code : Int32) (b_above b_ownField b_mType b_mName b_mLength b_bytes b_starts : Nat → Int32) (b_seen b_done : Nat → Int64) (b_heights b_local b_sure b_objType b_objField b_marked b_global b_fMethod b_fPc b_fHigh b_fLocal b_fEntry : Nat → Int32) {post : Int32 → SY → Prop} {m L nm tc : Nat} {D : Nat → Nat} {S : Nat → Prop} (F : fo_OK tc L D S) (hm : m < 8) (eL : b_mLength m = nI L) (hn : nm < 16) (eN : b_mName m = nI nm) (hD : ∀ p, p < 33 → b_bytes (m * 32 + p) = nI (D p) ∧ D p < 256)
    (J1 : WBad D L nm → ∀ (bad hi re : Int32) (lo H : Nat → Int32) (se dn : Nat → Int64) (su : Nat → Int32), (∀ i, (i < m * 32 ∨ m * 32 + 32 ≤ i) → su i = b_sure i) → post 1 (g_types, g_methods, g_place, g_result, g_linked, bad, hi, re, g_active, g_ticks, g_code, b_above, b_ownField, b_mType, b_mName, b_mLength, b_bytes, b_starts, se, dn, H, lo, su, b_objType, b_objField, b_marked, b_global, b_fMethod, b_fPc, b_fHigh, b_fLocal, b_fEntry))
    (J0 : ¬ WBad D L nm → ∀ (bad hi re : Int32) (lo H : Nat → Int32) (se dn : Nat → Int64) (su : Nat → Int32), (∀ i, (i < m * 32 ∨ m * 32 + 32 ≤ i) → su i = b_sure i) → (∀ p, p < L → ∀ s, s < 9 → (bt (su (m * 32 + p)) s = true ↔ AllR D L nm p s)) → post 0 (g_types, g_methods, g_place, g_result, g_linked, bad, hi, re, g_active, g_ticks, g_code, b_above, b_ownField, b_mType, b_mName, b_mLength, b_bytes, b_starts, se, dn, H, lo, su, b_objType, b_objField, b_marked, b_global, b_fMethod, b_fPc, b_fHigh, b_fLocal, b_fEntry)) :
    wpY_flowFault post (g_types, g_methods, g_place, g_result, g_linked, g_bad, g_high, g_refs, g_active, g_ticks, g_code, b_above, b_ownField, b_mType, b_mName, b_mLength, b_bytes, b_starts, b_seen, b_done, b_heights, b_local, b_sure, b_objType, b_objField, b_marked, b_global, b_fMethod, b_fPc, b_fHigh, b_fLocal, b_fEntry) (nI m) := by
  have hL := F.2.1
  -- the end
  have fin : ∀ (bad hi re : Int32) (lo H : Nat → Int32) (se dn : Nat → Int64) (su : Nat → Int32), GI m L nm D S b_sure bad 99999 H se dn su → (bad = 0 → ∀ w, w < 576 → se w = dn w) → post bad (g_types, g_methods, g_place, g_result, g_linked, bad, hi, re, g_active, g_ticks, g_code, b_above, b_ownField, b_mType, b_mName, b_mLength, b_bytes, b_starts, se, dn, H, lo, su, b_objType, b_objField, b_marked, b_global, b_fMethod, b_fPc, b_fHigh, b_fLocal, b_fEntry) := by
    intro bad hi re lo H se dn su G he
    rcases G.1 with ⟨rfl, I, hs0, hH0⟩ | ⟨rfl, wb, B⟩
    · have hse := he rfl
      have hall : ∀ st h, Way D L nm st h → sb se st ∧ H (wy_p st) = nI h := by
        intro st h w
        have key : WV L S st h ∧ st < 36864 ∧ sb se st ∧ H (wy_p st) = nI h := by
          refine w (fun st h => WV L S st h ∧ st < 36864 ∧ sb se st ∧ H (wy_p st) = nI h) ⟨way_v F (way_i D L nm), wy_i36 nm, hs0, by rw [wy_iD.1]; exact hH0⟩ (fun st h p' v hok hs hp' => ?_)
          obtain ⟨⟨v1, v2, v3, v4⟩, k1, k2, k3⟩ := v
          have hb := (fo_b4 F v1 v2).1
          have hdn : sb dn st := by
            unfold sb at k2 ⊢
            rw [← hse (st / 64) (by omega)]
            exact k2
          obtain ⟨c1, c2⟩ := I.2.2.2.2.2 st k1 hdn (by omega) h v3 k3
          obtain ⟨d1, d2, d3⟩ := c2 p' hs
          obtain ⟨n1, n2, n3⟩ := wy_nxD (p' := p') hb hok v3
          obtain ⟨b1, b2⟩ := wy_nrB hb hok v3
          obtain ⟨l0, l1, l2, l3⟩ := wy_nlB hok
          have hb3 := wy_p5 (wy_h (D (wy_p st)) h) (by omega)
          refine ⟨⟨by rw [n1]; exact hp', by rw [n1]; exact fo_su F v1 v2 hs hp', b2, by rw [n2]; exact b1⟩, wy_lt (by omega) (by omega) l0 l1 l2 l3, d3, by rw [n1]; exact d2⟩
        exact key.2.2
      have nb : ¬ WBad D L nm := by
        rintro ⟨st, h, w, z⟩
        obtain ⟨v1, v2, v3, v4⟩ := way_v F w
        obtain ⟨k2, k3⟩ := hall st h w
        have k1 : st < 36864 := by have := F.2.1; unfold wy_p at v1; omega
        have hdn : sb dn st := by
          unfold sb at k2 ⊢
          rw [← hse (st / 64) (by omega)]
          exact k2
        obtain ⟨c1, c2⟩ := I.2.2.2.2.2 st k1 hdn (by omega) h v3 k3
        rcases z with z | ⟨p', hs, z⟩ | ⟨st', h', w', ep, hne⟩
        · exact z c1
        · have := (c2 p' hs).1; omega
        · obtain ⟨-, -, v3', -⟩ := way_v F w'
          obtain ⟨-, k3'⟩ := hall st' h' w'
          rw [ep, k3] at k3'
          exact hne (gp_inj (by omega) (by omega) k3').symm
      refine J0 nb _ _ _ _ _ _ _ _ G.2 (fun p hp s hs => ?_)
      rw [I.2.2.2.2.1 p hp s hs]
      constructor
      · intro a st h w ep
        obtain ⟨v1, v2, v3, v4⟩ := way_v F w
        exact a st (by unfold wy_p at v1; omega) (hall st h w).1 ep
      · intro a st k1 k2 ep
        obtain ⟨h, -, -, w⟩ := I.2.1 st k1 k2
        exact a st h w ep
    · exact J1 wb _ _ _ _ _ _ _ _ G.2
  refine ⟨577, y_2 g_types g_methods g_place g_result g_linked g_bad g_high g_refs g_active g_ticks g_code b_above b_ownField b_mType b_mName b_mLength b_bytes b_starts b_heights b_local b_sure b_objType b_objField b_marked b_global b_fMethod b_fPc b_fHigh b_fLocal b_fEntry (fun se dn hz => ⟨33, y_31 g_types g_methods g_place g_result g_linked g_bad g_high g_refs g_active g_ticks g_code b_above b_ownField b_mType b_mName b_mLength b_bytes b_starts se dn b_local b_objType b_objField b_marked b_global b_fMethod b_fPc b_fHigh b_fLocal b_fEntry (su0 := b_sure) hm (fun H su k1 k2 => ?_) 32 0 rfl _ _ (fun q z => absurd z (by omega)) (fun _ _ => rfl)⟩) 576 0 rfl _ _ (fun w z => absurd z (by omega))⟩
  have nse : ∀ st, st < 36864 → ¬ sb se st := fun st hst z => by
    unfold sb at z
    rw [(hz (st / 64) (by omega)).1, lb_0] at z
    exact nomatch z
  have ndn : ∀ st, st < 36864 → ¬ sb dn st := fun st hst z => by
    unfold sb at z
    rw [(hz (st / 64) (by omega)).2, lb_0] at z
    exact nomatch z
  have I0 : YI m L nm D 99999 H se dn su := by
    refine ⟨fun p hp => Or.inl (k1 p hp).1, fun st h1 h2 => absurd h2 (nse st h1), fun p hp h hh e => ?_, fun st h1 h2 => absurd h2 (ndn st h1), fun p hp s hs => ?_, fun st h1 h2 => absurd h2 (ndn st h1)⟩
    · rw [(k1 p hp).1] at e
      exact absurd e.symm (fun z => gp_m1n (by omega) z)
    · rw [(k1 p (by omega)).2]
      exact ⟨fun _ st h1 h2 => absurd h2 (nse st h1), fun _ => bt_511 s hs⟩
  obtain ⟨i1, i2, i3, i4, i5, i6⟩ := wy_iD (nm := nm)
  have cont : ∀ z0 : Nat, z0 = wy_c (wy_i nm) 1 → wY_flowFault_107 post (nI m) (nI z0) 1 g_types g_methods g_place g_result g_linked 0 (nI 0) (nI (wy_r (wy_i nm))) g_active g_ticks g_code b_above b_ownField b_mType b_mName b_mLength b_bytes b_starts se dn H (upd b_local 0 1) su b_objType b_objField b_marked b_global b_fMethod b_fPc b_fHigh b_fLocal b_fEntry := by
    intro z0 ez
    unfold wY_flowFault_107
    refine ⟨vp_in_nI (n := 1) (by omega) (by omega), nm_e (nm_e (nm_e ?_))⟩
    refine rc1 g_types g_methods g_place g_result g_linked g_active g_ticks g_code b_above b_ownField b_mType b_mName b_mLength b_bytes b_starts se dn H (upd (upd (upd (upd b_local 0 1) 1 (nI z0)) 2 2) 3 2) su b_objType b_objField b_marked b_global b_fMethod b_fPc b_fHigh b_fLocal b_fEntry (p' := 0) (h' := 0) (st' := wy_i nm) (su0 := b_sure) F hm eL (by omega) (by omega) I0 k2 (fun s hs => ?_) i1 (fun z => absurd F.1 (by omega)) (fun _ => way_i D L nm) (fun wb => ?_) (fun hp' H' se' su' I' hs' eh' hm' hb' hse' => ?_)
    · rcases (by omega : s = 0 ∨ s = 1 ∨ s = 2 ∨ s = 3) with rfl | rfl | rfl | rfl
      · rw [i3]; rfl
      · rw [← ez]; rfl
      · rw [i5]; rfl
      · rw [i6]; rfl
    · exact ⟨36901, y_132 g_types g_methods g_place g_result g_linked g_active g_ticks g_code b_above b_ownField b_mType b_mName b_mLength b_bytes b_starts b_objType b_objField b_marked b_global b_fMethod b_fPc b_fHigh b_fLocal b_fEntry F hm eL hn eN hD fin 36900 0 rfl 1 1 _ _ _ _ _ _ _ ⟨Or.inr ⟨rfl, wb, YI_BM F I0⟩, k2⟩ (Or.inr rfl) (fun _ => by omega) (fun z => absurd z (by decide))⟩
    · exact ⟨36901, y_132 g_types g_methods g_place g_result g_linked g_active g_ticks g_code b_above b_ownField b_mType b_mName b_mLength b_bytes b_starts b_objType b_objField b_marked b_global b_fMethod b_fPc b_fHigh b_fLocal b_fEntry F hm eL hn eN hD fin 36900 0 rfl 1 0 _ _ _ _ _ _ _ ⟨Or.inl ⟨rfl, I', hb', eh'⟩, hs'⟩ (Or.inr rfl) (fun _ => by omega) (fun z => absurd z (by decide))⟩
  unfold wY_flowFault_31
  refine br_t (by decide) (nm_e ⟨vp_in_nI hm (by omega), ?_⟩)
  rw [nI_clamp (by omega), eN]
  have h4 := gk_and4 nm (by omega)
  by_cases e : nm / 4 % 2 = 0
  · refine br_t (h4.mpr e) ?_
    have := cont 0 (by rw [i4, if_pos e])
    rw [i2] at this
    exact this
  · refine br_f (fun z => e (h4.mp z)) ?_
    have := cont 1 (by rw [i4, if_neg e])
    rw [i2] at this
    exact this
