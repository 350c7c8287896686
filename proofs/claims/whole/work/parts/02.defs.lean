/-! ===== numbers of an Int32 ===== -/
def gm_n (x : Int32) : Nat := x.toNatClampNeg
/-! ===== the instruction tables ===== -/
def is_sg (o : Nat) : Bool := (decide (3 ≤ o) && decide (o ≤ 9)) || (decide (o = 12) || decide (o = 18))
def is_sz (o : Nat) : Nat := if is_sg o = true then 1 else 2
def is_vk (b : Nat) : Nat := if b < 8 then 2 else 4
def is_ak (b : Nat) : Nat := if b / 4 % 2 = 0 then 2 else 4
def is_n1 (o b nm : Nat) : Nat := if o < 2 then 0 else if o < 4 then 6 else if o < 9 then 2 else if o = 9 then 4 else if o = 11 then 2 else if o = 14 then 4 else if o = 15 then is_vk b else if o = 16 then is_ak b else if o = 17 then 4 else if o = 18 then is_vk nm else if o = 20 then 4 else 0
def is_n2 (o : Nat) : Nat := if o < 4 then 0 else if o < 9 then 2 else if o = 9 then 4 else if o = 15 then 4 else if o = 16 then 4 else 0
def is_tk (o : Nat) : Nat := if o < 2 then 0 else if o < 4 then 1 else if o < 10 then 2 else if o = 11 then 1 else if o = 14 then 1 else if o = 15 then 2 else if o = 16 then 2 else if o = 17 then 1 else if o = 18 then 1 else if o = 20 then 1 else 0
def is_gk (o b : Nat) : Nat := if o = 0 then 2 else if o < 4 then 0 else if o < 10 then 2 else if o < 12 then 0 else if o < 14 then 4 else if o = 14 then is_vk b else if o = 15 then 0 else if o = 16 then is_vk b else if o = 17 then 2 else if o = 18 then 0 else if o = 19 then 4 else 0
def is_gv (o : Nat) : Bool := decide (o < 2) || (decide (4 ≤ o) && decide (o < 10)) || (decide (12 ≤ o) && decide (o < 15)) || (decide (16 ≤ o) && decide (o < 18)) || decide (o = 19)
/-- the operand of an instruction is one that the form allows -/
def is_opd (tc o b : Nat) : Prop := ((o = 1 ∨ o = 2) → b < 4) ∧ ((14 ≤ o ∧ o ≤ 16) → b < 16) ∧ ((19 ≤ o) → b < 2) ∧ ((o = 13 ∨ o = 17) → b < tc)
/-- where the next instruction may be -/
def is_su (o b p p' : Nat) : Prop := ((o = 10 ∨ o = 11) ∧ p' = b) ∨ (o ≠ 10 ∧ o ≠ 18 ∧ p' = p + is_sz o)
/-! ===== kinds: a code c (0 int, 1 ref, 2 unset) in a set a of kinds (bits 1: unset, 2: int, 4: ref) ===== -/
def kd_m (c : Nat) : Nat := if c = 0 then 2 else if c = 1 then 4 else 1
def kd_in (c a : Nat) : Prop := a / kd_m c % 2 = 1
def kd_sub (a n : Nat) : Prop := ∀ c, c < 3 → kd_in c a → kd_in c n
/-! ===== ways: a way's state is a number st (place, kinds) and a height h ===== -/
def wy_p (st : Nat) : Nat := st / 1152
def wy_r (st : Nat) : Nat := st / 36 % 32
def wy_c (st s : Nat) : Nat := if s = 0 then st / 18 % 2 else if s = 1 then st / 9 % 2 else if s = 2 then st / 3 % 3 else if s = 3 then st % 3 else wy_r st / 2 ^ (s - 4) % 2
def wy_e (p r a b c d : Nat) : Nat := ((((p * 32 + r) * 2 + a) * 2 + b) * 3 + c) * 3 + d
def wy_ok (o b nm st h : Nat) : Prop := is_tk o ≤ h ∧ (1 ≤ is_tk o → kd_in (wy_c st (3 + h)) (is_n1 o b nm)) ∧ (is_tk o = 2 → kd_in (wy_c st (2 + h)) (is_n2 o)) ∧ (o = 1 → wy_c st b ≠ 2) ∧ (is_gv o = true → h - is_tk o < 5)
def wy_h (o h : Nat) : Nat := h - is_tk o + (if is_gv o = true then 1 else 0)
def wy_g (o b st : Nat) : Nat := if o = 1 then wy_c st b else if is_gk o b = 4 then 1 else 0
def wy_nr (o b st h : Nat) : Nat := wy_r st % 2 ^ (h - is_tk o) + (if is_gv o = true then wy_g o b st * 2 ^ (h - is_tk o) else 0)
def wy_nl (o b st h s : Nat) : Nat := if o = 2 ∧ s = b then wy_c st (3 + h) else wy_c st s
def wy_nx (o b st h p' : Nat) : Nat := wy_e p' (wy_nr o b st h) (wy_nl o b st h 0) (wy_nl o b st h 1) (wy_nl o b st h 2) (wy_nl o b st h 3)
def wy_i (nm : Nat) : Nat := wy_e 0 0 1 (if nm / 4 % 2 = 0 then 0 else 1) 2 2
/-- D: the method's bytes, L their number, nm the method's name -/
def Way (D : Nat → Nat) (L nm st h : Nat) : Prop := ∀ P : Nat → Nat → Prop, P (wy_i nm) 0 → (∀ st h p', P st h → wy_ok (D (wy_p st)) (D (wy_p st + 1)) nm st h → is_su (D (wy_p st)) (D (wy_p st + 1)) (wy_p st) p' → p' < L → P (wy_nx (D (wy_p st)) (D (wy_p st + 1)) st h p') (wy_h (D (wy_p st)) h)) → P st h
/-- some way is refused -/
def WBad (D : Nat → Nat) (L nm : Nat) : Prop := ∃ st h, Way D L nm st h ∧ (¬ wy_ok (D (wy_p st)) (D (wy_p st + 1)) nm st h ∨ (∃ p', is_su (D (wy_p st)) (D (wy_p st + 1)) (wy_p st) p' ∧ L ≤ p') ∨ (∃ st' h', Way D L nm st' h' ∧ wy_p st' = wy_p st ∧ h' ≠ h))
/-! ===== the class's transfer of sets of kinds ===== -/
def xk_t (o b : Nat) (k : Nat → Nat) (h s : Nat) : Nat := if s < 4 then (if o = 2 ∧ s = b then k (3 + h) else k s) else if s < 4 + (h - is_tk o) then k s else if o = 1 then k b else is_gk o b
def xk_ok (o b nm : Nat) (k : Nat → Nat) (h : Nat) : Prop := is_tk o ≤ h ∧ (1 ≤ is_tk o → kd_sub (k (3 + h)) (is_n1 o b nm)) ∧ (is_tk o = 2 → kd_sub (k (2 + h)) (is_n2 o)) ∧ (o = 1 → ¬ kd_in 2 (k b)) ∧ (is_gv o = true → h - is_tk o < 5)
/-! ===== what the form's check gives: S the instructions' first bytes ===== -/
def fo_OK (tc L : Nat) (D : Nat → Nat) (S : Nat → Prop) : Prop := 0 < L ∧ L ≤ 32 ∧ S 0 ∧ ∀ p, p < L → S p → D p < 21 ∧ p + is_sz (D p) ≤ L ∧ (p + is_sz (D p) < L → S (p + is_sz (D p))) ∧ (is_sg (D p) = false → is_opd tc (D p) (D (p + 1))) ∧ ((D p = 10 ∨ D p = 11) → D (p + 1) < L ∧ S (D (p + 1)))
/-! ===== what the flow's check gives of a method m ===== -/
def mk_OK (m tc L nm : Nat) (by' H K su : Nat → Int32) : Prop := ∃ S : Nat → Prop, fo_OK tc L (fun p => gm_n (by' (m * 32 + p))) S ∧ H (m * 32) = nI 0 ∧ (∀ s, s < 4 → kd_in (wy_c (wy_i nm) s) (gm_n (K ((m * 32 + 0) * 9 + s)))) ∧
  ∀ p, p < L → ∀ h, h ≤ 5 → H (m * 32 + p) = nI h → S p ∧ (∀ s, s < 4 + h → ∃ a, 0 < a ∧ a < 8 ∧ K ((m * 32 + p) * 9 + s) = nI a) ∧ xk_ok (gm_n (by' (m * 32 + p))) (gm_n (by' (m * 32 + p + 1))) nm (fun s => gm_n (K ((m * 32 + p) * 9 + s))) h ∧
    (∀ p', is_su (gm_n (by' (m * 32 + p))) (gm_n (by' (m * 32 + p + 1))) p p' → p' < L ∧ H (m * 32 + p') = nI (wy_h (gm_n (by' (m * 32 + p))) h) ∧ ∀ s, s < 4 + wy_h (gm_n (by' (m * 32 + p))) h → kd_sub (xk_t (gm_n (by' (m * 32 + p))) (gm_n (by' (m * 32 + p + 1))) (fun s => gm_n (K ((m * 32 + p) * 9 + s))) h s) (gm_n (K ((m * 32 + p') * 9 + s)))) ∧
    (∀ s, s < 4 + h → (K ((m * 32 + p) * 9 + s) = 4 ↔ bt (su (m * 32 + p)) s = true))
/-! ===== the relation's pieces ===== -/
/-- program: types, fields, names, lengths, bytes -/
def rl_P (tc mc : Nat) (ab fs own mN mL by' : Nat → Int32) : Prop := tc ≤ 5 ∧ mc ≤ 8 ∧ (∀ t, t < tc → ab t = -1 ∨ ∃ a, a < t ∧ ab t = nI a) ∧ (∀ m, gm_n (mN m) < 16 ∧ mN m = nI (gm_n (mN m))) ∧ (∀ m, gm_n (mL m) ≤ 32 ∧ mL m = nI (gm_n (mL m))) ∧ (∀ i, gm_n (by' i) < 256 ∧ by' i = nI (gm_n (by' i))) ∧
  (∀ t, t < tc → ∀ f, f < 16 → (bt (fs t) f = true ↔ (own (t * 16 + f) ≠ 0 ∨ ∃ a, a < t ∧ ab t = nI a ∧ bt (fs a) f = true)))
/-- objects: h of them were made since the last reset -/
def rl_H (h tc : Nat) (fs gl ot fv yg yt yf : Nat → Int32) : Prop := h ≤ 10 ∧ (∀ g, g < 2 → ∃ r, r ≤ h ∧ gl g = nI r ∧ yg g = yR r) ∧
  ∀ o, o < h → ∃ t, t < tc ∧ ot (o + 1) = nI t ∧ yt o = nI t ∧ (∀ f, f < 8 → fv ((o + 1) * 16 + f) = yf (o * 16 + f)) ∧ (∀ f, 8 ≤ f → f < 16 → ∃ r, r ≤ h ∧ fv ((o + 1) * 16 + f) = nI r ∧ yf (o * 16 + f) = yR r ∧ (bt (fs t) f = false → r = 0))
def rl_L (tc mc : Nat) (mN mL by' H K su : Nat → Int32) : Prop := ∀ m, m < mc → mk_OK m tc (gm_n (mL m)) (gm_n (mN m)) by' H K su
def rl_R (f_typeCount f_methodCount f_linked f_faultPlace f_flowHeight f_active f_ticksLeft f_outcome f_latestResult : Int32) (a_typeAbove a_fieldSet a_methodType a_methodName a_codeLength a_bytes a_isStart a_heightAt a_kindsAt a_isWaiting a_flowKinds a_globals a_objectType a_fieldValue a_isMarked a_frameMethod a_frameAt a_frameHeight a_slots : Nat → Int32) (g_types g_methods g_place g_result g_linked g_bad g_high g_refs g_active g_ticks g_code : Int32) (b_above b_ownField b_mType b_mName b_mLength b_bytes b_starts : Nat → Int32) (b_seen b_done : Nat → Int64) (b_heights b_local b_sure b_objType b_objField b_marked b_global b_fMethod b_fPc b_fHigh b_fLocal b_fEntry : Nat → Int32) : Prop := ∃ tc mc h : Nat, f_typeCount = nI tc ∧ g_types = nI tc ∧ f_methodCount = nI mc ∧ g_methods = nI mc ∧ f_linked = g_linked ∧ (f_linked = 0 ∨ f_linked = 1) ∧ f_faultPlace = g_place ∧ (f_linked ≠ 0 → f_faultPlace = -1) ∧ f_latestResult = g_result ∧ f_active = 0 ∧
  a_typeAbove = b_above ∧ a_methodType = b_mType ∧ a_methodName = b_mName ∧ a_codeLength = b_mLength ∧ a_bytes = b_bytes ∧
  rl_P tc mc a_typeAbove a_fieldSet b_ownField a_methodName a_codeLength a_bytes ∧ (∀ i, ∃ a, a < 8 ∧ a_kindsAt i = nI a) ∧
  rl_H h tc a_fieldSet a_globals a_objectType a_fieldValue b_global b_objType b_objField ∧ (0 < h → f_linked ≠ 0) ∧ (f_linked ≠ 0 → rl_L tc mc a_methodName a_codeLength a_bytes a_heightAt a_kindsAt b_sure)
def i_Rel (k : Nat) (u : SX) (v : SY) : Prop := match u, v with
  | (f_typeCount, f_methodCount, f_linked, f_faultPlace, f_flowHeight, f_active, f_ticksLeft, f_outcome, f_latestResult, a_typeAbove, a_fieldSet, a_methodType, a_methodName, a_codeLength, a_bytes, a_isStart, a_heightAt, a_kindsAt, a_isWaiting, a_flowKinds, a_globals, a_objectType, a_fieldValue, a_isMarked, a_frameMethod, a_frameAt, a_frameHeight, a_slots), (g_types, g_methods, g_place, g_result, g_linked, g_bad, g_high, g_refs, g_active, g_ticks, g_code, b_above, b_ownField, b_mType, b_mName, b_mLength, b_bytes, b_starts, b_seen, b_done, b_heights, b_local, b_sure, b_objType, b_objField, b_marked, b_global, b_fMethod, b_fPc, b_fHigh, b_fLocal, b_fEntry) => rl_R f_typeCount f_methodCount f_linked f_faultPlace f_flowHeight f_active f_ticksLeft f_outcome f_latestResult a_typeAbove a_fieldSet a_methodType a_methodName a_codeLength a_bytes a_isStart a_heightAt a_kindsAt a_isWaiting a_flowKinds a_globals a_objectType a_fieldValue a_isMarked a_frameMethod a_frameAt a_frameHeight a_slots g_types g_methods g_place g_result g_linked g_bad g_high g_refs g_active g_ticks g_code b_above b_ownField b_mType b_mName b_mLength b_bytes b_starts b_seen b_done b_heights b_local b_sure b_objType b_objField b_marked b_global b_fMethod b_fPc b_fHigh b_fLocal b_fEntry
theorem i_up {k : Nat} {u : SX} {v : SY} (h : i_Rel k u v) : i_Rel (k + 4) u v := h
