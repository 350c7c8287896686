/-! ===== values of a slot: by the kinds a that it may have ===== -/
def VRm (h a : Nat) (x y : Int32) : Prop := (a = 4 → ∃ r, r ≤ h ∧ x = nI r ∧ y = yR r) ∧ (a = 2 → x = y)
theorem VRm_up {h h' a : Nat} {x y : Int32} (hh : h ≤ h') (v : VRm h a x y) : VRm h' a x y := ⟨fun e => by obtain ⟨r, hr, q⟩ := v.1 e; exact ⟨r, by omega, q⟩, v.2⟩
theorem kd_s4 : ∀ a, a < 8 → 0 < a → (∀ c, c < 3 → kd_in c a → kd_in c 4) → a = 4 := by unfold kd_in; decide +kernel
theorem kd_s2 : ∀ a, a < 8 → 0 < a → (∀ c, c < 3 → kd_in c a → kd_in c 2) → a = 2 := by unfold kd_in; decide +kernel
theorem VRm_sub {h a a' : Nat} {x y : Int32} (h8 : a < 8) (h0 : 0 < a) (hs : kd_sub a a') (v : VRm h a x y) : VRm h a' x y := by
  refine ⟨fun e => v.1 ?_, fun e => v.2 ?_⟩
  · subst e; exact kd_s4 a h8 h0 hs
  · subst e; exact kd_s2 a h8 h0 hs
/-! ===== the frames ===== -/
def sp (pF : Nat → Nat) : Nat → Nat
  | 0 => 0
  | n + 1 => sp pF n + (33 - pF n)
theorem sp_eq {pF pF' : Nat → Nat} : ∀ n, (∀ i, i < n → pF' i = pF i) → sp pF' n = sp pF n
  | 0, _ => rfl
  | n + 1, h => by unfold sp; rw [sp_eq n (fun i hi => h i (by omega)), h n (by omega)]
/-- one frame: its method, place, height and slots -/
def F1 (mc h : Nat) (mL K fm fa fh sl ym yp yh yl ye : Nat → Int32) (i m p hc : Nat) : Prop := m < mc ∧ p < gm_n (mL m) ∧ hc ≤ 5 ∧ fm i = nI m ∧ ym i = nI m ∧ fa i = nI p ∧ yp i = nI p ∧ fh i = nI hc ∧ yh i = nI hc ∧ ∀ s, s < 4 + hc → VRm h (gm_n (K ((m * 32 + p) * 9 + s))) (sl (i * 9 + s)) (ysl yl ye i s)
/-- a frame that waits for the call above it -/
def FW (mN by' H : Nat → Int32) (m p hc m2 : Nat) : Prop := hc + 2 ≤ 5 ∧ H (m * 32 + p) = nI (hc + 2) ∧ gm_n (by' (m * 32 + p)) = 16 ∧ gm_n (mN m2) = gm_n (by' (m * 32 + p + 1))
def FR (mc h n : Nat) (mL mN by' H K fm fa fh sl ym yp yh yl ye : Nat → Int32) (mF pF hF : Nat → Nat) : Prop := (∀ i, i < n → F1 mc h mL K fm fa fh sl ym yp yh yl ye i (mF i) (pF i) (hF i)) ∧ (∀ i, i + 1 < n → FW mN by' H (mF i) (pF i) (hF i) (mF (i + 1))) ∧ (∀ i, i + 1 = n → H (mF i * 32 + pF i) = nI (hF i))
theorem F1_up {mc h h' i m p hc : Nat} {mL K fm fa fh sl ym yp yh yl ye fm' fa' fh' sl' ym' yp' yh' yl' ye' : Nat → Int32} (hh : h ≤ h') (f : F1 mc h mL K fm fa fh sl ym yp yh yl ye i m p hc) (e1 : fm' i = fm i) (e2 : ym' i = ym i) (e3 : fa' i = fa i) (e4 : yp' i = yp i) (e5 : fh' i = fh i) (e6 : yh' i = yh i) (e7 : ∀ s, s < 9 → sl' (i * 9 + s) = sl (i * 9 + s)) (e8 : ∀ s, s < 9 → ysl yl' ye' i s = ysl yl ye i s) : F1 mc h' mL K fm' fa' fh' sl' ym' yp' yh' yl' ye' i m p hc := by
  obtain ⟨a1, a2, a3, a4, a5, a6, a7, a8, a9, a10⟩ := f
  exact ⟨a1, a2, a3, by rw [e1]; exact a4, by rw [e2]; exact a5, by rw [e3]; exact a6, by rw [e4]; exact a7, by rw [e5]; exact a8, by rw [e6]; exact a9, fun s hs => by rw [e7 s (by omega), e8 s (by omega)]; exact VRm_up hh (a10 s hs)⟩
/-- slots of the reference -/
theorem ysl_e {yl ye : Nat → Int32} {f j i s : Nat} {v : Int32} (hj : j < 5) (hs : s < 9) (h : ¬ (i = f ∧ s = 4 + j)) : ysl yl (upd ye (f * 6 + j) v) i s = ysl yl ye i s := by
  unfold ysl
  by_cases h4 : s < 4
  · rw [if_pos h4, if_pos h4]
  · rw [if_neg h4, if_neg h4, pk_un (by omega)]
theorem ysl_eS {yl ye : Nat → Int32} {f j : Nat} {v : Int32} : ysl yl (upd ye (f * 6 + j) v) f (4 + j) = v := by
  unfold ysl
  rw [if_neg (by omega), Nat.add_sub_cancel_left, pk_us]
theorem ysl_l {yl ye : Nat → Int32} {f b i s : Nat} {v : Int32} (hb : b < 4) (h : ¬ (i = f ∧ s = b)) : ysl (upd yl (f * 4 + b) v) ye i s = ysl yl ye i s := by
  unfold ysl
  by_cases h4 : s < 4
  · rw [if_pos h4, if_pos h4, pk_un (by omega)]
  · rw [if_neg h4, if_neg h4]
theorem ysl_lS {yl ye : Nat → Int32} {f b : Nat} {v : Int32} (hb : b < 4) : ysl (upd yl (f * 4 + b) v) ye f b = v := by
  unfold ysl
  rw [if_pos hb, pk_us]
theorem ysl_4 {yl ye : Nat → Int32} {f j : Nat} : ysl yl ye f (4 + j) = ye (f * 6 + j) := by
  unfold ysl
  rw [if_neg (by omega), Nat.add_sub_cancel_left]
theorem ysl_0 {yl ye : Nat → Int32} {f b : Nat} (hb : b < 4) : ysl yl ye f b = yl (f * 4 + b) := by
  unfold ysl
  rw [if_pos hb]
/-! ===== the two runs' states ===== -/
/-- all but the frames -/
def RP (tc mc h : Nat) (f_typeCount f_methodCount f_linked f_faultPlace f_flowHeight f_active f_ticksLeft f_outcome f_latestResult : Int32) (a_typeAbove a_fieldSet a_methodType a_methodName a_codeLength a_bytes a_isStart a_heightAt a_kindsAt a_isWaiting a_flowKinds a_globals a_objectType a_fieldValue a_isMarked a_frameMethod a_frameAt a_frameHeight a_slots : Nat → Int32) (g_types g_methods g_place g_result g_linked g_bad g_high g_refs g_active g_ticks g_code : Int32) (b_above b_ownField b_mType b_mName b_mLength b_bytes b_starts : Nat → Int32) (b_seen b_done : Nat → Int64) (b_heights b_local b_sure b_objType b_objField b_marked b_global b_fMethod b_fPc b_fHigh b_fLocal b_fEntry : Nat → Int32) : Prop := f_typeCount = nI tc ∧ g_types = nI tc ∧ f_methodCount = nI mc ∧ g_methods = nI mc ∧ f_linked = 1 ∧ g_linked = 1 ∧ f_faultPlace = -1 ∧ g_place = -1 ∧ a_typeAbove = b_above ∧ a_methodType = b_mType ∧ a_methodName = b_mName ∧ a_codeLength = b_mLength ∧ a_bytes = b_bytes ∧
  rl_P tc mc a_typeAbove a_fieldSet b_ownField a_methodName a_codeLength a_bytes ∧ (∀ i, ∃ a, a < 8 ∧ a_kindsAt i = nI a) ∧ rl_L tc mc a_methodName a_codeLength a_bytes a_heightAt a_kindsAt b_sure ∧ rl_H h tc a_fieldSet a_globals a_objectType a_fieldValue b_global b_objType b_objField
def RS (μ : Nat) (u : SX) (v : SY) : Prop := match u, v with
  | (f_typeCount, f_methodCount, f_linked, f_faultPlace, f_flowHeight, f_active, f_ticksLeft, f_outcome, f_latestResult, a_typeAbove, a_fieldSet, a_methodType, a_methodName, a_codeLength, a_bytes, a_isStart, a_heightAt, a_kindsAt, a_isWaiting, a_flowKinds, a_globals, a_objectType, a_fieldValue, a_isMarked, a_frameMethod, a_frameAt, a_frameHeight, a_slots), (g_types, g_methods, g_place, g_result, g_linked, g_bad, g_high, g_refs, g_active, g_ticks, g_code, b_above, b_ownField, b_mType, b_mName, b_mLength, b_bytes, b_starts, b_seen, b_done, b_heights, b_local, b_sure, b_objType, b_objField, b_marked, b_global, b_fMethod, b_fPc, b_fHigh, b_fLocal, b_fEntry) => ∃ (tc mc h n t : Nat) (mF pF hF : Nat → Nat), RP tc mc h f_typeCount f_methodCount f_linked f_faultPlace f_flowHeight f_active f_ticksLeft f_outcome f_latestResult a_typeAbove a_fieldSet a_methodType a_methodName a_codeLength a_bytes a_isStart a_heightAt a_kindsAt a_isWaiting a_flowKinds a_globals a_objectType a_fieldValue a_isMarked a_frameMethod a_frameAt a_frameHeight a_slots g_types g_methods g_place g_result g_linked g_bad g_high g_refs g_active g_ticks g_code b_above b_ownField b_mType b_mName b_mLength b_bytes b_starts b_seen b_done b_heights b_local b_sure b_objType b_objField b_marked b_global b_fMethod b_fPc b_fHigh b_fLocal b_fEntry ∧ f_active = nI n ∧ g_active = nI n ∧ 1 ≤ n ∧ n ≤ 6 ∧ f_ticksLeft = nI t ∧ g_ticks = nI t ∧ t ≤ 100 ∧ f_outcome = -1 ∧ FR mc h n a_codeLength a_methodName a_bytes a_heightAt a_kindsAt a_frameMethod a_frameAt a_frameHeight a_slots b_fMethod b_fPc b_fHigh b_fLocal b_fEntry mF pF hF ∧ μ = 64 * t + sp pF n
def RE (r : Nat) (u : SX) (v : SY) : Prop := match u, v with
  | (f_typeCount, f_methodCount, f_linked, f_faultPlace, f_flowHeight, f_active, f_ticksLeft, f_outcome, f_latestResult, a_typeAbove, a_fieldSet, a_methodType, a_methodName, a_codeLength, a_bytes, a_isStart, a_heightAt, a_kindsAt, a_isWaiting, a_flowKinds, a_globals, a_objectType, a_fieldValue, a_isMarked, a_frameMethod, a_frameAt, a_frameHeight, a_slots), (g_types, g_methods, g_place, g_result, g_linked, g_bad, g_high, g_refs, g_active, g_ticks, g_code, b_above, b_ownField, b_mType, b_mName, b_mLength, b_bytes, b_starts, b_seen, b_done, b_heights, b_local, b_sure, b_objType, b_objField, b_marked, b_global, b_fMethod, b_fPc, b_fHigh, b_fLocal, b_fEntry) => ∃ tc mc h : Nat, RP tc mc h f_typeCount f_methodCount f_linked f_faultPlace f_flowHeight f_active f_ticksLeft f_outcome f_latestResult a_typeAbove a_fieldSet a_methodType a_methodName a_codeLength a_bytes a_isStart a_heightAt a_kindsAt a_isWaiting a_flowKinds a_globals a_objectType a_fieldValue a_isMarked a_frameMethod a_frameAt a_frameHeight a_slots g_types g_methods g_place g_result g_linked g_bad g_high g_refs g_active g_ticks g_code b_above b_ownField b_mType b_mName b_mLength b_bytes b_starts b_seen b_done b_heights b_local b_sure b_objType b_objField b_marked b_global b_fMethod b_fPc b_fHigh b_fLocal b_fEntry ∧ f_outcome = nI r ∧ ((r = 0 ∧ g_result = f_latestResult) ∨ (r = 1 ∧ g_code = f_latestResult) ∨ (r = 2 ∧ f_latestResult = 0))
def XG (u u' : SX) : Prop := ∀ post : SX → Prop, post u' → wpX_step post u
def YG (v : SY) (r : Int32) (v' : SY) : Prop := ∀ post : Int32 → SY → Prop, post r v' → wpY_execute post v
/-- one step of both -/
def SO (μ : Nat) (u : SX) (v : SY) : Prop := (∃ u' v' μ', μ' < μ ∧ RS μ' u' v' ∧ XG u u' ∧ YG v (-1) v') ∨ (∃ u' v' r, RE r u' v' ∧ XG u u' ∧ YG v (nI r) v')
/-- the top frame goes on -/
theorem FR_top {mc h h' n f p' hc' : Nat} {mL mN by' H K fm fa fh sl ym yp yh yl ye fa' fh' sl' yp' yh' yl' ye' : Nat → Int32} {mF pF hF : Nat → Nat} (hn : f + 1 = n) (R : FR mc h n mL mN by' H K fm fa fh sl ym yp yh yl ye mF pF hF) (hh : h ≤ h')
    (e3 : ∀ i, i < f → fa' i = fa i) (e4 : ∀ i, i < f → yp' i = yp i) (e5 : ∀ i, i < f → fh' i = fh i) (e6 : ∀ i, i < f → yh' i = yh i) (e7 : ∀ i s, i < f → s < 9 → sl' (i * 9 + s) = sl (i * 9 + s)) (e8 : ∀ i s, i < f → s < 9 → ysl yl' ye' i s = ysl yl ye i s)
    (t3 : fa' f = nI p') (t4 : yp' f = nI p') (t5 : fh' f = nI hc') (t6 : yh' f = nI hc') (h5 : hc' ≤ 5) (hp : p' < gm_n (mL (mF f))) (eH : H (mF f * 32 + p') = nI hc') (hs : ∀ s, s < 4 + hc' → VRm h' (gm_n (K ((mF f * 32 + p') * 9 + s))) (sl' (f * 9 + s)) (ysl yl' ye' f s)) :
    FR mc h' n mL mN by' H K fm fa' fh' sl' ym yp' yh' yl' ye' mF (fun i => if i = f then p' else pF i) (fun i => if i = f then hc' else hF i) := by
  obtain ⟨r1, r2, r3⟩ := R
  refine ⟨fun i hi => ?_, fun i hi => ?_, fun i hi => ?_⟩
  · by_cases e : i = f
    · subst e
      obtain ⟨a1, a2, a3, a4, a5, -⟩ := r1 i hi
      simp only [if_true]
      exact ⟨a1, hp, h5, a4, a5, t3, t4, t5, t6, hs⟩
    · simp only [e, if_false]
      exact F1_up hh (r1 i hi) rfl rfl (e3 i (by omega)) (e4 i (by omega)) (e5 i (by omega)) (e6 i (by omega)) (fun s hs => e7 i s (by omega) hs) (fun s hs => e8 i s (by omega) hs)
  · have e : i ≠ f := by omega
    simp only [e, if_false]
    exact r2 i hi
  · have e : i = f := by omega
    subst e
    simp only [if_true]
    exact eH
theorem sp_top {pF : Nat → Nat} {f p' : Nat} : sp (fun i => if i = f then p' else pF i) (f + 1) = sp pF f + (33 - p') := by
  show sp _ f + (33 - (if f = f then p' else pF f)) = _
  rw [sp_eq (pF := pF) f (fun i hi => by simp [show i ≠ f by omega]), if_pos rfl]
/-- kinds behind an instruction: pushing -/
theorem vr_push {o b nm hc f h h' g : Nat} {k : Nat → Nat} {sl yl ye : Nat → Int32} {ax ay : Int32} (hx : xk_ok o b nm k hc) (hg : is_gv o = true) (h2 : o ≠ 2) (h5 : hc ≤ 5) (hh : h ≤ h') (hs : ∀ s, s < 4 + hc → VRm h (k s) (sl (f * 9 + s)) (ysl yl ye f s)) (eg : (if o = 1 then k b else is_gk o b) = g) (hv : VRm h' g ax ay) :
    ∀ s, s < 4 + wy_h o hc → VRm h' (xk_t o b k hc s) (upd sl (f * 9 + 4 + (hc - is_tk o)) ax (f * 9 + s)) (ysl yl (upd ye (f * 6 + (hc - is_tk o)) ay) f s) := by
  intro s hs2
  have hlt := hx.2.2.2.2 hg
  unfold wy_h at hs2
  rw [hg] at hs2
  simp only [if_true] at hs2
  unfold xk_t
  by_cases e : s = 4 + (hc - is_tk o)
  · subst e
    rw [if_neg (by omega), if_neg (by omega), eg, show f * 9 + (4 + (hc - is_tk o)) = f * 9 + 4 + (hc - is_tk o) by omega, pk_us, ysl_eS]
    exact hv
  · rw [pk_un (by omega), ysl_e (by omega) (by omega) (fun w => e w.2)]
    by_cases h4 : s < 4
    · rw [if_pos h4, if_neg (fun w => h2 w.1)]
      exact VRm_up hh (hs s (by omega))
    · rw [if_neg h4, if_pos (by omega)]
      exact VRm_up hh (hs s (by omega))
/-- kinds behind an instruction: nothing pushed, nothing stored -/
theorem vr_none {o b nm hc f h h' : Nat} {k : Nat → Nat} {sl yl ye : Nat → Int32} (hx : xk_ok o b nm k hc) (hg : is_gv o = false) (h2 : o ≠ 2) (hh : h ≤ h') (hs : ∀ s, s < 4 + hc → VRm h (k s) (sl (f * 9 + s)) (ysl yl ye f s)) : ∀ s, s < 4 + wy_h o hc → VRm h' (xk_t o b k hc s) (sl (f * 9 + s)) (ysl yl ye f s) := by
  intro s hs2
  unfold wy_h at hs2
  rw [hg] at hs2
  simp at hs2
  unfold xk_t
  by_cases h4 : s < 4
  · rw [if_pos h4, if_neg (fun w => h2 w.1)]
    exact VRm_up hh (hs s (by omega))
  · rw [if_neg h4, if_pos (by omega)]
    exact VRm_up hh (hs s (by omega))
/-- kinds behind a STORE -/
theorem vr_store {b nm hc f h : Nat} {k : Nat → Nat} {sl yl ye : Nat → Int32} (hx : xk_ok 2 b nm k hc) (hb : b < 4) (h5 : hc ≤ 5) (hs : ∀ s, s < 4 + hc → VRm h (k s) (sl (f * 9 + s)) (ysl yl ye f s)) : ∀ s, s < 4 + wy_h 2 hc → VRm h (xk_t 2 b k hc s) (upd sl (f * 9 + b) (sl (f * 9 + 4 + (hc - 1))) (f * 9 + s)) (ysl (upd yl (f * 4 + b) (ye (f * 6 + (hc - 1)))) ye f s) := by
  intro s hs2
  have h1 : 1 ≤ hc := hx.1
  have ew : wy_h 2 hc = hc - 1 := rfl
  rw [ew] at hs2
  unfold xk_t
  by_cases e : s = b
  · subst e
    rw [if_pos hb, if_pos ⟨rfl, rfl⟩, pk_us, ysl_lS hb]
    have := hs (3 + hc) (by omega)
    rw [show 3 + hc = 4 + (hc - 1) by omega, ysl_4] at this
    rw [show 3 + hc = 4 + (hc - 1) by omega, show f * 9 + 4 + (hc - 1) = f * 9 + (4 + (hc - 1)) by omega]
    exact this
  · rw [pk_un (by omega), ysl_l hb (fun w => e w.2)]
    by_cases h4 : s < 4
    · rw [if_pos h4, if_neg (fun w => e w.2)]; exact hs s (by omega)
    · have et : is_tk 2 = 1 := rfl
      rw [if_neg h4, if_pos (by rw [et]; omega)]; exact hs s (by omega)
