def lkD (by' : Nat → Int32) (m p : Nat) : Nat := gm_n (by' (m * 32 + p))
def lkOK (tc : Nat) (mL mN by' : Nat → Int32) (m : Nat) : Prop := fnP tc (gm_n (mL m)) (lkD by' m) ∧ ¬ WBad (lkD by' m) (gm_n (mL m)) (gm_n (mN m))
/-- what the class found of method m -/
def lkX (m tc : Nat) (mL mN by' H K : Nat → Int32) : Prop := ∃ S : Nat → Prop, fo_OK tc (gm_n (mL m)) (lkD by' m) S ∧ H (m * 32) = nI 0 ∧ (∀ s, s < 4 → kd_in (wy_c (wy_i (gm_n (mN m))) s) (gm_n (K ((m * 32 + 0) * 9 + s)))) ∧
  ∀ p, p < gm_n (mL m) → ∀ h, h ≤ 5 → H (m * 32 + p) = nI h → S p ∧ (∀ s, s < 4 + h → ∃ a, 0 < a ∧ a < 8 ∧ K ((m * 32 + p) * 9 + s) = nI a) ∧ xc m (gm_n (mL m)) (gm_n (mN m)) (lkD by' m) H K p h ∧ (∀ s, s < 4 + h → (K ((m * 32 + p) * 9 + s) = 4 ↔ AllR (lkD by' m) (gm_n (mL m)) (gm_n (mN m)) p s))
def lkY (m : Nat) (mL mN by' su : Nat → Int32) : Prop := ∀ p, p < gm_n (mL m) → ∀ s, s < 9 → (bt (su (m * 32 + p)) s = true ↔ AllR (lkD by' m) (gm_n (mL m)) (gm_n (mN m)) p s)
theorem lk_mk {m tc : Nat} {mL mN by' H K su : Nat → Int32} (x : lkX m tc mL mN by' H K) (y : lkY m mL mN by' su) : mk_OK m tc (gm_n (mL m)) (gm_n (mN m)) by' H K su := by
  obtain ⟨S, x1, x2, x3, x4⟩ := x
  refine ⟨S, x1, x2, x3, fun p hp h hh e => ?_⟩
  obtain ⟨a1, a2, ⟨a3, a4⟩, a5⟩ := x4 p hp h hh e
  exact ⟨a1, a2, a3, a4, fun s hs => (a5 s hs).trans (y p hp s (by omega)).symm⟩
theorem lkX_fr {m m' tc : Nat} {mL mN by' H K H' K' : Nat → Int32} (hL : gm_n (mL m') ≤ 32) (f : XFr m H K H' K') (hne : m' ≠ m) (x : lkX m' tc mL mN by' H K) : lkX m' tc mL mN by' H' K' := by
  obtain ⟨S, x1, x2, x3, x4⟩ := x
  have eH : ∀ p, p < 32 → H' (m' * 32 + p) = H (m' * 32 + p) := fun p hp => f.1 _ (by omega)
  have eK : ∀ p s, p < 32 → s < 9 → K' ((m' * 32 + p) * 9 + s) = K ((m' * 32 + p) * 9 + s) := fun p s hp hs => f.2 _ (by omega)
  have ek : ∀ p s, p < 32 → s < 9 → kk m' K' p s = kk m' K p s := fun p s hp hs => by unfold kk; rw [eK p s hp hs]
  refine ⟨S, x1, by have := eH 0 (by omega); rw [Nat.add_zero] at this; rw [this]; exact x2, fun s hs => by rw [eK 0 s (by omega) (by omega)]; exact x3 s hs, fun p hp h hh e => ?_⟩
  rw [eH p (by omega)] at e
  obtain ⟨a1, a2, ⟨a3, a4⟩, a5⟩ := x4 p hp h hh e
  have hb4 := fo_b4 x1 hp a1
  obtain ⟨c1, c2⟩ := xk_cg hb4.1 (fun s hs => ek p s (by omega) (by omega)) a3
  have h5' := xk_h5 hh a3
  refine ⟨a1, fun s hs => by rw [eK p s (by omega) (by omega)]; exact a2 s hs, ⟨c1, fun q hq => ?_⟩, fun s hs => by rw [eK p s (by omega) (by omega)]; exact a5 s hs⟩
  obtain ⟨d1, d2, d3⟩ := a4 q hq
  refine ⟨d1, by rw [eH q (by omega)]; exact d2, fun s hs => ?_⟩
  rw [c2 s hs, ek q s (by omega) (by omega)]
  exact d3 s hs
theorem lx (f_linked f_faultPlace f_active f_ticksLeft f_outcome f_latestResult : Int32) (a_typeAbove a_fieldSet a_methodType a_methodName a_codeLength a_bytes a_globals a_objectType a_fieldValue a_isMarked a_frameMethod a_frameAt a_frameHeight a_slots : Nat → Int32) {tc mc : Nat} {ab fs own : Nat → Int32} (P : rl_P tc mc ab fs own a_methodName a_codeLength a_bytes) :
    ∀ d m, m + d = mc → ∀ (fh : Int32) (xs H K W FK : Nat → Int32), (∀ i, ∃ a, a < 8 ∧ K i = nI a) → (∀ m', m' < m → lkX m' tc a_codeLength a_methodName a_bytes H K) →
    (∃ m1 q, m1 < mc ∧ m ≤ m1 ∧ q < 32 ∧ (∀ m', m ≤ m' → m' < m1 → lkOK tc a_codeLength a_methodName a_bytes m') ∧ fqP tc (gm_n (a_codeLength m1)) (lkD a_bytes m1) q ∧ ∃ (fh' : Int32) (xs' H' K' W' FK' : Nat → Int32), (∀ i, ∃ a, a < 8 ∧ K' i = nI a) ∧ ∀ post : Int32 → SX → Prop, post 1 (nI tc, nI mc, f_linked, nI (m1 * 32 + q), fh', f_active, f_ticksLeft, f_outcome, f_latestResult, a_typeAbove, a_fieldSet, a_methodType, a_methodName, a_codeLength, a_bytes, xs', H', K', W', FK', a_globals, a_objectType, a_fieldValue, a_isMarked, a_frameMethod, a_frameAt, a_frameHeight, a_slots) → wX_link_25 post (d + 1) (nI m) (nI tc) (nI mc) f_linked f_faultPlace fh f_active f_ticksLeft f_outcome f_latestResult a_typeAbove a_fieldSet a_methodType a_methodName a_codeLength a_bytes xs H K W FK a_globals a_objectType a_fieldValue a_isMarked a_frameMethod a_frameAt a_frameHeight a_slots) ∨
    (∃ m1, m1 < mc ∧ m ≤ m1 ∧ (∀ m', m ≤ m' → m' < m1 → lkOK tc a_codeLength a_methodName a_bytes m') ∧ fnP tc (gm_n (a_codeLength m1)) (lkD a_bytes m1) ∧ WBad (lkD a_bytes m1) (gm_n (a_codeLength m1)) (gm_n (a_methodName m1)) ∧ ∃ (fh' : Int32) (xs' H' K' W' FK' : Nat → Int32), (∀ i, ∃ a, a < 8 ∧ K' i = nI a) ∧ ∀ post : Int32 → SX → Prop, post 2 (nI tc, nI mc, f_linked, nI (m1 * 32), fh', f_active, f_ticksLeft, f_outcome, f_latestResult, a_typeAbove, a_fieldSet, a_methodType, a_methodName, a_codeLength, a_bytes, xs', H', K', W', FK', a_globals, a_objectType, a_fieldValue, a_isMarked, a_frameMethod, a_frameAt, a_frameHeight, a_slots) → wX_link_25 post (d + 1) (nI m) (nI tc) (nI mc) f_linked f_faultPlace fh f_active f_ticksLeft f_outcome f_latestResult a_typeAbove a_fieldSet a_methodType a_methodName a_codeLength a_bytes xs H K W FK a_globals a_objectType a_fieldValue a_isMarked a_frameMethod a_frameAt a_frameHeight a_slots) ∨
    ((∀ m', m ≤ m' → m' < mc → lkOK tc a_codeLength a_methodName a_bytes m') ∧ ∃ (fh' : Int32) (xs' H' K' W' FK' : Nat → Int32), (∀ i, ∃ a, a < 8 ∧ K' i = nI a) ∧ (∀ m', m' < mc → lkX m' tc a_codeLength a_methodName a_bytes H' K') ∧ ∀ post : Int32 → SX → Prop, post 0 (nI tc, nI mc, 1, f_faultPlace, fh', f_active, f_ticksLeft, f_outcome, f_latestResult, a_typeAbove, a_fieldSet, a_methodType, a_methodName, a_codeLength, a_bytes, xs', H', K', W', FK', a_globals, a_objectType, a_fieldValue, a_isMarked, a_frameMethod, a_frameAt, a_frameHeight, a_slots) → wX_link_25 post (d + 1) (nI m) (nI tc) (nI mc) f_linked f_faultPlace fh f_active f_ticksLeft f_outcome f_latestResult a_typeAbove a_fieldSet a_methodType a_methodName a_codeLength a_bytes xs H K W FK a_globals a_objectType a_fieldValue a_isMarked a_frameMethod a_frameAt a_frameHeight a_slots) := by
  obtain ⟨h5, h8, -, pN, pL, pB, -⟩ := P
  intro d
  induction d with
  | zero =>
    intro m hm fh xs H K W FK KB hX
    cases (show m = mc by omega)
    refine Or.inr (Or.inr ⟨fun m' h1 h2 => absurd h2 (by omega), fh, xs, H, K, W, FK, KB, hX, fun post J => ?_⟩)
    unfold wX_link_25
    exact br_t (nI_le (by omega) (by omega)) J
  | succ d ih =>
    intro m hm fh xs H K W FK KB hX
    have hm8 : m < 8 := by omega
    have nle : ¬ nI mc ≤ nI m := nI_ge (by omega) (by omega)
    obtain ⟨L1, L2⟩ := pL m
    obtain ⟨N1, N2⟩ := pN m
    have hD : ∀ p, p < 33 → a_bytes (m * 32 + p) = nI (lkD a_bytes m p) ∧ lkD a_bytes m p < 256 := fun p _ => ⟨(pB _).2, (pB _).1⟩
    rcases fm_both (nI mc) f_linked f_faultPlace fh f_active f_ticksLeft f_outcome f_latestResult a_typeAbove a_fieldSet a_methodType a_methodName a_codeLength a_bytes xs H K W FK a_globals a_objectType a_fieldValue a_isMarked a_frameMethod a_frameAt a_frameHeight a_slots 0 0 0 0 0 0 0 0 0 0 (fun _ => 0) (fun _ => 0) (fun _ => 0) (fun _ => 0) a_codeLength (fun _ => 0) (fun _ => 0) (fun _ => 0) (fun _ => 0) (fun _ => 0) (fun _ => 0) (fun _ => 0) (fun _ => 0) (fun _ => 0) (fun _ => 0) (fun _ => 0) (fun _ => 0) (fun _ => 0) (fun _ => 0) (fun _ => 0) hm8 L1 h5 L2 L2 hD with ⟨q, xs', -, hq, fq, wX, -⟩ | ⟨S, xs', -, F, fn, wX, -⟩
    · refine Or.inl ⟨m, q, by omega, by omega, hq, fun m' h1 h2 => absurd h2 (by omega), fq, fh, xs', H, K, W, FK, KB, fun post J => ?_⟩
      unfold wX_link_25
      refine br_f nle (wX _ (br_f (by rw [gm_m1 (by omega)]; exact id) (nm_r ?_ J)))
      simp (disch := omega) only [gm_ml, nI_add]
    · rcases xf_all (nI tc) (nI mc) f_linked f_faultPlace fh f_active f_ticksLeft f_outcome f_latestResult a_typeAbove a_fieldSet a_methodType a_methodName a_codeLength a_bytes xs' H K W FK a_globals a_objectType a_fieldValue a_isMarked a_frameMethod a_frameAt a_frameHeight a_slots F hm8 L2 N1 N2 hD KB with ⟨wb, fh1, FK1, H1, K1, W1, KB1, fr, wX2⟩ | ⟨nb, fh1, FK1, H1, K1, W1, I1, nw, e0, k0, fr, wX2⟩
      · refine Or.inr (Or.inl ⟨m, by omega, by omega, fun m' h1 h2 => absurd h2 (by omega), fn, wb, fh1, xs', H1, K1, W1, FK1, KB1, fun post J => ?_⟩)
        unfold wX_link_25
        exact br_f nle (wX _ (br_t rfl (wX2 _ (br_t rfl (nm_r (pk_mul m 32) J)))))
      · have hXm : lkX m tc a_codeLength a_methodName a_bytes H1 K1 := by
          refine ⟨S, F, e0, k0, fun p hp h hh e => ?_⟩
          obtain ⟨a1, a2⟩ := I1.2.2.1 p hp h hh e
          exact ⟨a1, fun s hs => ⟨_, a2 s hs, (kk_8 I1 p s).1, (kk_8 I1 p s).2⟩, I1.2.2.2.2 p hp h hh e (nw p hp) (by omega), fun s hs => xf_ref F I1 nw e0 k0 hp hh e hs⟩
        have hX1 : ∀ m', m' < m + 1 → lkX m' tc a_codeLength a_methodName a_bytes H1 K1 := by
          intro m' hm'
          by_cases e : m' = m
          · subst e; exact hXm
          · exact lkX_fr (pL m').1 fr e (hX m' (by omega))
        have walk : ∀ post : Int32 → SX → Prop, wX_link_25 post (d + 1) (nI (m + 1)) (nI tc) (nI mc) f_linked f_faultPlace fh1 f_active f_ticksLeft f_outcome f_latestResult a_typeAbove a_fieldSet a_methodType a_methodName a_codeLength a_bytes xs' H1 K1 W1 FK1 a_globals a_objectType a_fieldValue a_isMarked a_frameMethod a_frameAt a_frameHeight a_slots → wX_link_25 post (d + 1 + 1) (nI m) (nI tc) (nI mc) f_linked f_faultPlace fh f_active f_ticksLeft f_outcome f_latestResult a_typeAbove a_fieldSet a_methodType a_methodName a_codeLength a_bytes xs H K W FK a_globals a_objectType a_fieldValue a_isMarked a_frameMethod a_frameAt a_frameHeight a_slots := by
          intro post J
          unfold wX_link_25
          exact br_f nle (wX _ (br_t rfl (wX2 _ (br_f (by decide) (nm_r (nI_1 m) J)))))
        have pm : ∀ {m1 : Nat}, (∀ m', m + 1 ≤ m' → m' < m1 → lkOK tc a_codeLength a_methodName a_bytes m') → ∀ m', m ≤ m' → m' < m1 → lkOK tc a_codeLength a_methodName a_bytes m' := by
          intro m1 h m' h1 h2
          by_cases e : m' = m
          · subst e; exact ⟨fn, nb⟩
          · exact h m' (by omega) h2
        rcases ih (m + 1) (by omega) fh1 xs' H1 K1 W1 FK1 I1.1 hX1 with ⟨m1, q, b1, b2, b3, b4, b5, fh2, xs2, H2, K2, W2, FK2, KB2, J2⟩ | ⟨m1, b1, b2, b3, b4, b5, fh2, xs2, H2, K2, W2, FK2, KB2, J2⟩ | ⟨b1, fh2, xs2, H2, K2, W2, FK2, KB2, hX2, J2⟩
        · exact Or.inl ⟨m1, q, b1, by omega, b3, pm b4, b5, fh2, xs2, H2, K2, W2, FK2, KB2, fun post J => walk post (J2 post J)⟩
        · exact Or.inr (Or.inl ⟨m1, b1, by omega, pm b3, b4, b5, fh2, xs2, H2, K2, W2, FK2, KB2, fun post J => walk post (J2 post J)⟩)
        · exact Or.inr (Or.inr ⟨pm b1, fh2, xs2, H2, K2, W2, FK2, KB2, hX2, fun post J => walk post (J2 post J)⟩)
theorem ly (g_place g_result g_linked g_active g_ticks g_code : Int32) (b_above b_ownField b_mType b_mName b_mLength b_bytes b_objType b_objField b_marked b_global b_fMethod b_fPc b_fHigh b_fLocal b_fEntry : Nat → Int32) {post : Int32 → SY → Prop} {tc mc : Nat} {ab fs own : Nat → Int32} (P : rl_P tc mc ab fs own b_mName b_mLength b_bytes)
    (J1 : ∀ m1 q, m1 < mc → (∀ m', m' < m1 → lkOK tc b_mLength b_mName b_bytes m') → fqP tc (gm_n (b_mLength m1)) (lkD b_bytes m1) q → ∀ (bad hi re : Int32) (lo H ys : Nat → Int32) (se dn : Nat → Int64) (su : Nat → Int32), post 1 (nI tc, nI mc, nI (m1 * 32 + q), g_result, g_linked, bad, hi, re, g_active, g_ticks, g_code, b_above, b_ownField, b_mType, b_mName, b_mLength, b_bytes, ys, se, dn, H, lo, su, b_objType, b_objField, b_marked, b_global, b_fMethod, b_fPc, b_fHigh, b_fLocal, b_fEntry))
    (J2 : ∀ m1, m1 < mc → (∀ m', m' < m1 → lkOK tc b_mLength b_mName b_bytes m') → fnP tc (gm_n (b_mLength m1)) (lkD b_bytes m1) → WBad (lkD b_bytes m1) (gm_n (b_mLength m1)) (gm_n (b_mName m1)) → ∀ (bad hi re : Int32) (lo H ys : Nat → Int32) (se dn : Nat → Int64) (su : Nat → Int32), post 2 (nI tc, nI mc, nI (m1 * 32), g_result, g_linked, bad, hi, re, g_active, g_ticks, g_code, b_above, b_ownField, b_mType, b_mName, b_mLength, b_bytes, ys, se, dn, H, lo, su, b_objType, b_objField, b_marked, b_global, b_fMethod, b_fPc, b_fHigh, b_fLocal, b_fEntry))
    (J0 : (∀ m', m' < mc → lkOK tc b_mLength b_mName b_bytes m') → ∀ (bad hi re : Int32) (lo H ys : Nat → Int32) (se dn : Nat → Int64) (su : Nat → Int32), (∀ m', m' < mc → lkY m' b_mLength b_mName b_bytes su) → post 0 (nI tc, nI mc, g_place, g_result, 1, bad, hi, re, g_active, g_ticks, g_code, b_above, b_ownField, b_mType, b_mName, b_mLength, b_bytes, ys, se, dn, H, lo, su, b_objType, b_objField, b_marked, b_global, b_fMethod, b_fPc, b_fHigh, b_fLocal, b_fEntry)) :
    ∀ d m, m + d = mc → (∀ m', m' < m → lkOK tc b_mLength b_mName b_bytes m') → ∀ (bad hi re : Int32) (lo H ys : Nat → Int32) (se dn : Nat → Int64) (su : Nat → Int32), (∀ m', m' < m → lkY m' b_mLength b_mName b_bytes su) → wY_link_30 post (d + 1) (nI m) (nI tc) (nI mc) g_place g_result g_linked bad hi re g_active g_ticks g_code b_above b_ownField b_mType b_mName b_mLength b_bytes ys se dn H lo su b_objType b_objField b_marked b_global b_fMethod b_fPc b_fHigh b_fLocal b_fEntry := by
  obtain ⟨h5, h8, -, pN, pL, pB, -⟩ := P
  intro d
  induction d with
  | zero =>
    intro m hm hp bad hi re lo H ys se dn su hY
    cases (show m = mc by omega)
    unfold wY_link_30
    exact br_t (nI_le (by omega) (by omega)) (J0 hp _ _ _ _ _ _ _ _ _ hY)
  | succ d ih =>
    intro m hm hp bad hi re lo H ys se dn su hY
    have hm8 : m < 8 := by omega
    have nle : ¬ nI mc ≤ nI m := nI_ge (by omega) (by omega)
    obtain ⟨L1, L2⟩ := pL m
    obtain ⟨N1, N2⟩ := pN m
    have hD : ∀ p, p < 33 → b_bytes (m * 32 + p) = nI (lkD b_bytes m p) ∧ lkD b_bytes m p < 256 := fun p _ => ⟨(pB _).2, (pB _).1⟩
    unfold wY_link_30
    refine br_f nle ?_
    rcases fm_both 0 0 0 0 0 0 0 0 (fun _ => 0) (fun _ => 0) (fun _ => 0) (fun _ => 0) b_mLength b_bytes (fun _ => 0) (fun _ => 0) (fun _ => 0) (fun _ => 0) (fun _ => 0) (fun _ => 0) (fun _ => 0) (fun _ => 0) (fun _ => 0) (fun _ => 0) (fun _ => 0) (fun _ => 0) (fun _ => 0) (nI mc) g_place g_result g_linked bad hi re g_active g_ticks g_code b_above b_ownField b_mType b_mName b_mLength ys se dn H lo su b_objType b_objField b_marked b_global b_fMethod b_fPc b_fHigh b_fLocal b_fEntry hm8 L1 h5 L2 L2 hD with ⟨q, -, ys', hq, fq, -, wY⟩ | ⟨S, -, ys', F, fn, -, wY⟩
    · refine wY _ (br_f (nI_pos (by omega)) (nm_r ?_ (J1 m q (by omega) hp fq _ _ _ _ _ _ _ _ _)))
      simp (disch := omega) only [gm_ml, nI_add]
    · refine wY _ (br_t (by decide) (yf_all (nI tc) (nI mc) g_place g_result g_linked bad hi re g_active g_ticks g_code b_above b_ownField b_mType b_mName b_mLength b_bytes ys' se dn H lo su b_objType b_objField b_marked b_global b_fMethod b_fPc b_fHigh b_fLocal b_fEntry F hm8 L2 N1 N2 hD (fun wb bad hi re lo H se dn su fr => br_f (by decide) (nm_r (pk_mul m 32) (J2 m (by omega) hp fn wb _ _ _ _ _ _ _ _ _))) (fun nb bad hi re lo H se dn su' fr hs => br_t rfl (nm_r (nI_1 m) (ih (m + 1) (by omega) (fun m' h' => ?_) _ _ _ _ _ _ _ _ _ (fun m' h' => ?_))))))
      · by_cases e : m' = m
        · subst e; exact ⟨fn, nb⟩
        · exact hp m' (by omega)
      · by_cases e : m' = m
        · subst e; exact hs
        · intro p hp2 s hs2
          have := (pL m').1
          rw [fr _ (by omega)]
          exact hY m' (by omega) p hp2 s hs2
theorem i_vc_link {k : Nat} {u : SX} {v : SY} (I : i_Rel k u v) (hk : k + 4 ≤ 2048) : wpX_link (fun r u' => wpY_link (fun r' v' => r' = r ∧ i_Rel (k + 4) u' v') v) u := by
  obtain ⟨f_typeCount, f_methodCount, f_linked, f_faultPlace, f_flowHeight, f_active, f_ticksLeft, f_outcome, f_latestResult, a_typeAbove, a_fieldSet, a_methodType, a_methodName, a_codeLength, a_bytes, a_isStart, a_heightAt, a_kindsAt, a_isWaiting, a_flowKinds, a_globals, a_objectType, a_fieldValue, a_isMarked, a_frameMethod, a_frameAt, a_frameHeight, a_slots⟩ := u
  obtain ⟨g_types, g_methods, g_place, g_result, g_linked, g_bad, g_high, g_refs, g_active, g_ticks, g_code, b_above, b_ownField, b_mType, b_mName, b_mLength, b_bytes, b_starts, b_seen, b_done, b_heights, b_local, b_sure, b_objType, b_objField, b_marked, b_global, b_fMethod, b_fPc, b_fHigh, b_fLocal, b_fEntry⟩ := v
  obtain ⟨tc, mc, h, rfl, rfl, rfl, rfl, rfl, hl, rfl, hfp, rfl, rfl, rfl, rfl, rfl, rfl, rfl, P, KB, H, hh, hL⟩ := I
  have h5 := P.1
  unfold wpX_link
  rcases hl with rfl | rfl
  · have h0 : h = 0 := by
      rcases Nat.eq_zero_or_pos h with z | z
      · exact z
      · exact absurd rfl (hh z)
    refine br_t rfl ?_
    rcases Nat.eq_zero_or_pos tc with rfl | hp
    · refine br_t rfl ?_
      unfold wpY_link
      exact br_t rfl (br_t rfl ⟨rfl, 0, mc, 0, rfl, rfl, rfl, rfl, rfl, Or.inl rfl, rfl, fun z => absurd rfl z, rfl, rfl, rfl, rfl, rfl, rfl, rfl, P, KB, rl_H0 H h0, fun z => absurd z (by omega), fun z => absurd rfl z⟩)
    · have n0 : ¬ nI tc = 0 := nI_ne0 (by omega) (by omega)
      refine br_f n0 ⟨mc + 1, ?_⟩
      have hY : ∀ post : Int32 → SY → Prop, wY_link_30 post (mc + 1) (nI 0) (nI tc) (nI mc) (-1) f_latestResult 0 g_bad g_high g_refs g_active g_ticks g_code a_typeAbove b_ownField a_methodType a_methodName a_codeLength a_bytes b_starts b_seen b_done b_heights b_local b_sure b_objType b_objField b_marked b_global b_fMethod b_fPc b_fHigh b_fLocal b_fEntry → wpY_link post (nI tc, nI mc, f_faultPlace, f_latestResult, 0, g_bad, g_high, g_refs, g_active, g_ticks, g_code, a_typeAbove, b_ownField, a_methodType, a_methodName, a_codeLength, a_bytes, b_starts, b_seen, b_done, b_heights, b_local, b_sure, b_objType, b_objField, b_marked, b_global, b_fMethod, b_fPc, b_fHigh, b_fLocal, b_fEntry) := by
        intro post J
        unfold wpY_link
        exact br_t rfl (br_f n0 ⟨mc + 1, J⟩)
      rcases lx 0 (-1) 0 f_ticksLeft f_outcome f_latestResult a_typeAbove a_fieldSet a_methodType a_methodName a_codeLength a_bytes a_globals a_objectType a_fieldValue a_isMarked a_frameMethod a_frameAt a_frameHeight a_slots P mc 0 (by omega) f_flowHeight a_isStart a_heightAt a_kindsAt a_isWaiting a_flowKinds KB (fun m' z => absurd z (by omega)) with ⟨m1, q, b1, b2, b3, b4, b5, fh2, xs2, H2, K2, W2, FK2, KB2, JX⟩ | ⟨m1, b1, b2, b3, b4, b5, fh2, xs2, H2, K2, W2, FK2, KB2, JX⟩ | ⟨b1, fh2, xs2, H2, K2, W2, FK2, KB2, hX2, JX⟩
      · refine JX _ (hY _ (ly (-1) f_latestResult 0 g_active g_ticks g_code a_typeAbove b_ownField a_methodType a_methodName a_codeLength a_bytes b_objType b_objField b_marked b_global b_fMethod b_fPc b_fHigh b_fLocal b_fEntry P (fun m2 q2 c1 c2 c3 bad hi re lo H' ys se dn su => ?_) (fun m2 c1 c2 c3 c4 => ?_) (fun c => ?_) mc 0 (by omega) (fun m' z => absurd z (by omega)) _ _ _ _ _ _ _ _ _ (fun m' z => absurd z (by omega))))
        · have em : m2 = m1 := by
            rcases Nat.lt_trichotomy m1 m2 with z | z | z
            · exact absurd (fq_n b5 (c2 m1 z).1) id
            · exact z.symm
            · exact absurd (fq_n c3 (b4 m2 (by omega) z).1) id
          subst em
          have eq := fq_u b5 c3
          subst eq
          exact ⟨rfl, tc, mc, 0, rfl, rfl, rfl, rfl, rfl, Or.inl rfl, rfl, fun z => absurd rfl z, rfl, rfl, rfl, rfl, rfl, rfl, rfl, P, KB2, rl_H0 H h0, fun z => absurd z (by omega), fun z => absurd rfl z⟩
        · exfalso
          rcases Nat.lt_trichotomy m1 m2 with z | z | z
          · exact fq_n b5 (c2 m1 z).1
          · subst z; exact fq_n b5 c3
          · exact (b4 m2 (by omega) z).2 c4
        · exact absurd (fq_n b5 (c m1 b1).1) id
      · refine JX _ (hY _ (ly (-1) f_latestResult 0 g_active g_ticks g_code a_typeAbove b_ownField a_methodType a_methodName a_codeLength a_bytes b_objType b_objField b_marked b_global b_fMethod b_fPc b_fHigh b_fLocal b_fEntry P (fun m2 q2 c1 c2 c3 => ?_) (fun m2 c1 c2 c3 c4 bad hi re lo H' ys se dn su => ?_) (fun c => ?_) mc 0 (by omega) (fun m' z => absurd z (by omega)) _ _ _ _ _ _ _ _ _ (fun m' z => absurd z (by omega))))
        · exfalso
          rcases Nat.lt_trichotomy m1 m2 with z | z | z
          · exact (c2 m1 z).2 b5
          · subst z; exact fq_n c3 b4
          · exact fq_n c3 (b3 m2 (by omega) z).1
        · have em : m2 = m1 := by
            rcases Nat.lt_trichotomy m1 m2 with z | z | z
            · exact absurd b5 (c2 m1 z).2
            · exact z.symm
            · exact absurd c4 (b3 m2 (by omega) z).2
          subst em
          exact ⟨rfl, tc, mc, 0, rfl, rfl, rfl, rfl, rfl, Or.inl rfl, rfl, fun z => absurd rfl z, rfl, rfl, rfl, rfl, rfl, rfl, rfl, P, KB2, rl_H0 H h0, fun z => absurd z (by omega), fun z => absurd rfl z⟩
        · exact absurd b5 (c m1 b1).2
      · refine JX _ (hY _ (ly (-1) f_latestResult 0 g_active g_ticks g_code a_typeAbove b_ownField a_methodType a_methodName a_codeLength a_bytes b_objType b_objField b_marked b_global b_fMethod b_fPc b_fHigh b_fLocal b_fEntry P (fun m2 q2 c1 c2 c3 => ?_) (fun m2 c1 c2 c3 c4 => ?_) (fun c bad hi re lo H' ys se dn su hYm => ?_) mc 0 (by omega) (fun m' z => absurd z (by omega)) _ _ _ _ _ _ _ _ _ (fun m' z => absurd z (by omega))))
        · exact absurd (fq_n c3 (b1 m2 (by omega) c1).1) id
        · exact absurd c4 (b1 m2 (by omega) c1).2
        · exact ⟨rfl, tc, mc, 0, rfl, rfl, rfl, rfl, rfl, Or.inr rfl, rfl, fun _ => rfl, rfl, rfl, rfl, rfl, rfl, rfl, rfl, P, KB2, rl_H0 H h0, fun z => absurd z (by omega), fun _ m' hm' => lk_mk (hX2 m' hm') (hYm m' hm')⟩
  · refine br_f (by decide) ?_
    have e := hfp (by decide)
    subst e
    unfold wpY_link
    exact br_f (by decide) ⟨rfl, tc, mc, h, rfl, rfl, rfl, rfl, rfl, Or.inr rfl, rfl, fun _ => rfl, rfl, rfl, rfl, rfl, rfl, rfl, rfl, P, KB, H, hh, hL⟩
