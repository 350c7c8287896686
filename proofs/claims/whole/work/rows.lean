section
theorem pk_us {f : Nat → Int32} {k : Nat} {x : Int32} : upd f k x k = x := if_pos rfl
theorem pk_un {f : Nat → Int32} {k j : Nat} {x : Int32} (h : j ≠ k) : upd f k x j = f j := if_neg h
theorem pk_uLs {f : Nat → Int64} {k : Nat} {x : Int64} : vp_updL f k x k = x := if_pos rfl
theorem pk_uLn {f : Nat → Int64} {k j : Nat} {x : Int64} (h : j ≠ k) : vp_updL f k x j = f j := if_neg h
theorem pk_sub {a b : Nat} (h : b ≤ a) : nI a - nI b = nI (a - b) := by
  obtain ⟨c, rfl⟩ : ∃ c, a = c + b := ⟨a - b, by omega⟩
  rw [← nI_add, Int32.add_sub_cancel, Nat.add_sub_cancel]
theorem pk_m1 (n : Nat) : nI (n + 1) + (-1) = nI n := by
  rw [← nI_1, Int32.add_assoc, show (1 : Int32) + (-1) = 0 from rfl, Int32.add_zero]
theorem pk_mul (a b : Nat) : nI a * nI b = nI (a * b) := (Int32.ofNat_mul a b).symm
theorem pk_div {a d : Nat} (ha : a < 2 ^ 31) (h0 : 0 < d) (hd : d < 2 ^ 31) : nI a / nI d = nI (a / d) := by
  apply Int32.toInt_inj.mp
  rw [lg_idiv_nonneg (by rw [nI_toInt ha]; omega) (by rw [nI_toInt hd]; omega), nI_toInt ha, nI_toInt hd, nI_toInt (Nat.lt_of_le_of_lt (Nat.div_le_self a d) ha)]
  first | rfl | exact (Int.natCast_ediv _ _).symm
theorem pk_rem {a d : Nat} (ha : a < 2 ^ 31) (h0 : 0 < d) (hd : d < 2 ^ 31) : nI a - nI a / nI d * nI d = nI (a % d) := by
  rw [pk_div ha h0 hd, pk_mul, pk_sub (Nat.div_mul_le_self a d)]
  exact congrArg nI (by have := Nat.div_add_mod' a d; omega)
theorem pk_ix (x : Int32) {n : Nat} (hn : n < 2 ^ 31) : x < 0 ∨ nI n ≤ x ∨ ∃ j : Nat, j < n ∧ x = nI j := by
  by_cases h : x < 0
  · exact Or.inl h
  · obtain ⟨j, hj, rfl⟩ := nI_of h
    by_cases h2 : j < n
    · exact Or.inr (Or.inr ⟨j, h2, rfl⟩)
    · exact Or.inr (Or.inl (nI_le (by omega) hj))
theorem pk_le {x y : Int32} {A B : Prop} (a b : Nat) (f : a ≤ b → A) (g : b < a → B) (hx : x = nI a := by rfl) (hy : y = nI b := by rfl) (ha : a < 2 ^ 31 := by omega) (hb : b < 2 ^ 31 := by omega) : (x ≤ y → A) ∧ (¬ x ≤ y → B) := by
  subst hx hy
  rw [nI_leI ha hb]
  exact ⟨f, fun z => g (by omega)⟩
theorem pk_lt {x y : Int32} {A B : Prop} (a b : Nat) (f : a < b → A) (g : b ≤ a → B) (hx : x = nI a := by rfl) (hy : y = nI b := by rfl) (ha : a < 2 ^ 31 := by omega) (hb : b < 2 ^ 31 := by omega) : (x < y → A) ∧ (¬ x < y → B) := by
  subst hx hy
  rw [nI_ltI ha hb]
  exact ⟨f, fun z => g (by omega)⟩
theorem pk_eq {x y : Int32} {A B : Prop} (a b : Nat) (f : a = b → A) (g : a ≠ b → B) (hx : x = nI a := by rfl) (hy : y = nI b := by rfl) (ha : a < 2 ^ 31 := by omega) (hb : b < 2 ^ 31 := by omega) : (x = y → A) ∧ (¬ x = y → B) := by
  subst hx hy
  rw [nI_eq ha hb]
  exact ⟨f, g⟩
theorem pk_in {x : Int32} (n N : Nat) (h : n < N) (hx : x = nI n := by rfl) (hN : N < 2 ^ 31 := by omega) : vp_in x N := by
  subst hx
  exact vp_in_nI h hN
theorem pk_cl {x : Int32} (n : Nat) (hx : x = nI n := by rfl) (h : n < 2 ^ 31 := by omega) : x.toNatClampNeg = n := by
  subst hx
  exact nI_clamp h
theorem pk_tn {n : Nat} (h : n < 2 ^ 32) : (nI n).toBitVec.toNat = n := Nat.mod_eq_of_lt h
theorem pk_and (x : Int32) {m : Int32} (k : Nat) (hm : m.toBitVec.toNat = 2 ^ k - 1) : x &&& m = nI (x.toBitVec.toNat % 2 ^ k) := by
  apply Int32.toBitVec_inj.mp
  apply BitVec.eq_of_toNat_eq
  rw [Int32.toBitVec_and, BitVec.toNat_and, hm, Nat.and_two_pow_sub_one_eq_mod]
  show _ = (BitVec.ofNat 32 _).toNat
  rw [BitVec.toNat_ofNat]
  exact (Nat.mod_eq_of_lt (Nat.lt_of_le_of_lt (Nat.mod_le _ _) x.toBitVec.isLt)).symm
theorem pk_andN {n : Nat} (h : n < 2 ^ 32) {m : Int32} (k : Nat) (hm : m.toBitVec.toNat = 2 ^ k - 1) : nI n &&& m = nI (n % 2 ^ k) := by
  rw [pk_and _ k hm, pk_tn h]
theorem pk_shl (a s : Int32) (k : Nat) (hs : (s.toBitVec.smod 32).toNat = k) : (a <<< s).toBitVec.toNat = a.toBitVec.toNat * 2 ^ k % 2 ^ 32 := by
  show (a.toBitVec <<< (s.toBitVec.smod 32).toNat).toNat = _
  rw [hs, BitVec.toNat_shiftLeft, Nat.shiftLeft_eq]
theorem pk_shlN {n : Nat} (s : Int32) (k : Nat) (hs : (s.toBitVec.smod 32).toNat = k) (h : n * 2 ^ k < 2 ^ 32) : nI n <<< s = nI (n * 2 ^ k) := by
  apply Int32.toBitVec_inj.mp
  apply BitVec.eq_of_toNat_eq
  have hn : n < 2 ^ 32 := Nat.lt_of_le_of_lt (Nat.le_mul_of_pos_right n (Nat.two_pow_pos k)) h
  rw [pk_shl _ _ k hs, pk_tn hn, pk_tn h, Nat.mod_eq_of_lt h]
theorem pk_shr (a s : Int32) (k : Nat) (hs : (s.toBitVec.smod 32).toNat = k) : (a >>> s).toInt = a.toInt >>> k := by
  show (a.toBitVec.sshiftRight (s.toBitVec.smod 32).toNat).toInt = _
  rw [hs, BitVec.toInt_sshiftRight]
  rfl
theorem pk_shrN {n : Nat} (h : n < 2 ^ 31) (s : Int32) (k : Nat) (hs : (s.toBitVec.smod 32).toNat = k) : nI n >>> s = nI (n / 2 ^ k) := by
  apply Int32.toInt_inj.mp
  have h2 : n / 2 ^ k ≤ n := Nat.div_le_self _ _
  rw [pk_shr _ _ k hs, nI_toInt h, nI_toInt (by omega), Int.shiftRight_eq_div_pow]
  rfl
def bt (x : Int32) (i : Nat) : Bool := x.toBitVec.getLsbD i
theorem b_ext {x y : Int32} (h : ∀ i, i < 32 → bt x i = bt y i) : x = y := Int32.toBitVec_inj.mp (BitVec.eq_of_getLsbD_eq (fun i hi => h i hi))
theorem b_or (x y : Int32) (i : Nat) : bt (x ||| y) i = (bt x i || bt y i) := by unfold bt; rw [Int32.toBitVec_or, BitVec.getLsbD_or]
theorem b_and (x y : Int32) (i : Nat) : bt (x &&& y) i = (bt x i && bt y i) := by unfold bt; rw [Int32.toBitVec_and, BitVec.getLsbD_and]
theorem b_xor (x y : Int32) (i : Nat) : bt (x ^^^ y) i = (bt x i ^^ bt y i) := by unfold bt; rw [Int32.toBitVec_xor, BitVec.getLsbD_xor]
theorem b_big {x : Int32} {i : Nat} (h : 32 ≤ i) : bt x i = false := BitVec.getLsbD_of_ge _ _ h
theorem b_0 (i : Nat) : bt 0 i = false := BitVec.getLsbD_zero
theorem s_l : ∀ n, n < 32 → ((nI n &&& 31).toBitVec.smod 32).toNat = n := by decide +kernel
theorem b_shl (n : Nat) (hn : n < 32) (x : Int32) {i : Nat} (hi : i < 32) : bt (x <<< (nI n &&& 31)) i = (decide (n ≤ i) && bt x (i - n)) := by
  unfold bt
  rw [Int32.toBitVec_shiftLeft]
  show (x.toBitVec <<< ((nI n &&& 31).toBitVec.smod 32).toNat).getLsbD i = _
  rw [s_l n hn, BitVec.getLsbD_shiftLeft]
  rcases Nat.lt_or_ge i n with h | h
  · simp [h, Nat.not_le.mpr h]
  · simp [hi, h, Nat.not_lt.mpr h]
theorem b_sshr (n : Nat) (hn : n < 32) (x : Int32) {i : Nat} (hi : i < 32) : bt (x >>> (nI n &&& 31)) i = if n + i < 32 then bt x (n + i) else bt x 31 := by
  unfold bt
  rw [Int32.toBitVec_shiftRight]
  show (x.toBitVec.sshiftRight ((nI n &&& 31).toBitVec.smod 32).toNat).getLsbD i = _
  rw [s_l n hn, BitVec.getLsbD_sshiftRight, BitVec.msb_eq_getLsbD_last]
  simp [hi]
theorem wb_tb (n : Nat) : (lN n).toBitVec = BitVec.ofNat 64 n := rfl
theorem wb_inj {a b : Int64} (h : a.toBitVec = b.toBitVec) : a = b := Int64.toBitVec_inj.mp h
theorem wb_tn {n : Nat} (h : n < 2 ^ 64) : (lN n).toBitVec.toNat = n := by rw [wb_tb, BitVec.toNat_ofNat, Nat.mod_eq_of_lt h]
theorem wb_of (x : Int64) : ∃ n, n < 2 ^ 64 ∧ x = lN n := ⟨x.toBitVec.toNat, x.toBitVec.isLt, wb_inj (by rw [wb_tb]; simp)⟩
theorem wb_c : ∀ k, k < 64 → ((nI k).toInt64 &&& 63) = lN k := by decide +kernel
theorem wb_cu : ∀ k, k < 64 → ((nI k).toInt64.toUInt64 &&& Int64.toUInt64 63) = UInt64.ofNat k := by decide +kernel
theorem wb_sm : ∀ k, k < 64 → (BitVec.ofNat 64 k).smod 64 = BitVec.ofNat 64 k := by decide +kernel
theorem nx_and (a b : Nat) : nI a &&& nI b = nI (a &&& b) := by
  apply Int32.toBitVec_inj.1
  show BitVec.ofNat 32 a &&& BitVec.ofNat 32 b = BitVec.ofNat 32 (a &&& b)
  apply BitVec.eq_of_getLsbD_eq
  intro i hi
  simp [hi]
/-! own rows: numbers against literals, for simp with omega -/
theorem gm_ml (a n : Nat) : nI a * (no_index (OfNat.ofNat n : Int32)) = nI (a * OfNat.ofNat n) := pk_mul a n
theorem gm_al (a n : Nat) : nI a + (no_index (OfNat.ofNat n : Int32)) = nI (a + OfNat.ofNat n) := nI_add a n
theorem gm_la (a n : Nat) : (no_index (OfNat.ofNat n : Int32)) + nI a = nI (OfNat.ofNat n + a) := nI_add n a
theorem gm_sl {a n : Nat} (h : (OfNat.ofNat n : Nat) ≤ a) : nI a - (no_index (OfNat.ofNat n : Int32)) = nI (a - OfNat.ofNat n) := pk_sub (b := n) h
theorem gm_in {n N : Nat} (h : n < N) (hN : N < 2 ^ 31) : vp_in (nI n) N = True := eq_true (vp_in_nI h hN)
theorem gm_inL {n N : Nat} (h : (OfNat.ofNat n : Nat) < N) (hN : N < 2 ^ 31) : vp_in (no_index (OfNat.ofNat n : Int32)) N = True := eq_true (vp_in_nI (n := n) h hN)
theorem gm_eqL {a n : Nat} (ha : a < 2 ^ 31) (hn : (OfNat.ofNat n : Nat) < 2 ^ 31) : (nI a = (no_index (OfNat.ofNat n : Int32))) = (a = OfNat.ofNat n) := propext (nI_eq (b := n) ha hn)
theorem gm_leL {a n : Nat} (ha : a < 2 ^ 31) (hn : (OfNat.ofNat n : Nat) < 2 ^ 31) : (nI a ≤ (no_index (OfNat.ofNat n : Int32))) = (a ≤ OfNat.ofNat n) := propext (nI_leI (b := n) ha hn)
theorem gm_ltL {a n : Nat} (ha : a < 2 ^ 31) (hn : (OfNat.ofNat n : Nat) < 2 ^ 31) : (nI a < (no_index (OfNat.ofNat n : Int32))) = (a < OfNat.ofNat n) := propext (nI_ltI (b := n) ha hn)
theorem gm_Lle {a n : Nat} (ha : a < 2 ^ 31) (hn : (OfNat.ofNat n : Nat) < 2 ^ 31) : ((no_index (OfNat.ofNat n : Int32)) ≤ nI a) = (OfNat.ofNat n ≤ a) := propext (nI_leI (a := n) hn ha)
theorem gm_Llt {a n : Nat} (ha : a < 2 ^ 31) (hn : (OfNat.ofNat n : Nat) < 2 ^ 31) : ((no_index (OfNat.ofNat n : Int32)) < nI a) = (OfNat.ofNat n < a) := propext (nI_ltI (a := n) hn ha)
theorem gm_eq {a b : Nat} (ha : a < 2 ^ 31) (hb : b < 2 ^ 31) : (nI a = nI b) = (a = b) := propext (nI_eq ha hb)
theorem gm_le {a b : Nat} (ha : a < 2 ^ 31) (hb : b < 2 ^ 31) : (nI a ≤ nI b) = (a ≤ b) := propext (nI_leI ha hb)
theorem gm_lt {a b : Nat} (ha : a < 2 ^ 31) (hb : b < 2 ^ 31) : (nI a < nI b) = (a < b) := propext (nI_ltI ha hb)
theorem gm_m1 {a : Nat} (ha : a < 2 ^ 31) : (nI a = (-1 : Int32)) = False := by
  apply eq_false
  intro e
  have h := nI_pos ha
  rw [e] at h
  exact h (by decide)
theorem gm_clL {n : Nat} (h : (OfNat.ofNat n : Nat) < 2 ^ 31) : (no_index (OfNat.ofNat n : Int32)).toNatClampNeg = OfNat.ofNat n := nI_clamp (n := n) h
theorem gm_l0 {a : Nat} (ha : a < 2 ^ 31) : (nI a < (0 : Int32)) = False := eq_false (nI_pos ha)
theorem gm_0l {a : Nat} (ha : a < 2 ^ 31) : ((0 : Int32) ≤ nI a) = True := eq_true (nI_pos' ha)
theorem gm_nb0 : vp_nar .boolean 0 = 0 := by decide
theorem gm_nb1 : vp_nar .boolean 1 = 1 := by decide
/-- the reference's number of the object at the class's place r (0: null) -/
def yR (r : Nat) : Int32 := nI r - 1
theorem yR_0 : yR 0 = -1 := by decide
theorem yR_s (k : Nat) : yR (k + 1) = nI k := nI_pred k
theorem gm_z2 : (((2 : Int32)) = 0) = False := by decide
theorem gm_z3 : (((3 : Int32)) = 0) = False := by decide
theorem gm_z9 : (((9 : Int32)) = 0) = False := by decide
theorem gm_z16 : (((16 : Int32)) = 0) = False := by decide
theorem gm_z18 : (((18 : Int32)) = 0) = False := by decide
theorem gm_z32 : (((32 : Int32)) = 0) = False := by decide
theorem gm_z36 : (((36 : Int32)) = 0) = False := by decide
theorem gm_z64 : (((64 : Int32)) = 0) = False := by decide
theorem gm_z1152 : (((1152 : Int32)) = 0) = False := by decide
theorem gm_z1 : (((1 : Int32)) = 0) = False := by decide
end
section
/-! ===== numbers of an Int32 ===== -/
def gm_n (x : Int32) : Nat := x.toNatClampNeg
/-! ===== the instruction tables ===== -/
def is_sg (o : Nat) : Bool := (decide (3 ≤ o) && decide (o ≤ 9)) || (decide (o = 12) || decide (o = 18))
def is_sz (o : Nat) : Nat := if is_sg o = true then 1 else 2
def is_vk (b : Nat) : Nat := if b < 8 then 2 else 4
def is_ak (b : Nat) : Nat := if b / 4 % 2 = 0 then 2 else 4
def is_n1 (o b nm : Nat) : Nat := if o < 2 then 0 else if o < 4 then 6 else if o < 9 then 2 else if o = 9 then 4 else if o = 11 then 2 else if o = 14 then 4 else if o = 15 then is_vk b else if o = 16 then is_ak b else if o = 17 then 4 else if o = 18 then is_vk nm else if o = 20 then 4 else 0
def is_n2 (o : Nat) : Nat := if o < 4 then 0 else if o < 9 then 2 else if o = 9 then 4 else if o = 15 then 4 else if o = 16 then 4 else 0
def is_tk (o : Nat) : Nat := if o < 2 then 0 else if o < 4 then 1 else if o < 10 then 2 else if o = 11 then 1 else if o = 14 then 1 else if o = 15 then 2 else if o = 16 then 2 else if o = 17 then 1 else if o = 18 then 1 else if o = 20 then 1 else 0
def is_gk (o b : Nat) : Nat := if o = 0 then 2 else if o < 4 then 0 else if o < 10 then 2 else if o < 12 then 0 else if o < 14 then 4 else if o = 14 then is_vk b else if o = 15 then 0 else if o = 16 then is_vk b else if o = 17 then 2 else if o = 18 then 0 else if o = 19 then 4 else 0
def is_gv (o : Nat) : Bool := decide (o < 2) || (decide (4 ≤ o) && decide (o < 10)) || (decide (12 ≤ o) && decide (o < 15)) || (decide (16 ≤ o) && decide (o < 18)) || decide (o = 19)
/-- the operand of an instruction is one that the form allows -/
def is_opd (tc o b : Nat) : Prop := ((o = 1 ∨ o = 2) → b < 4) ∧ ((14 ≤ o ∧ o ≤ 16) → b < 16) ∧ ((19 ≤ o) → b < 2) ∧ ((o = 13 ∨ o = 17) → b < tc)
/-- where the next instruction may be -/
def is_su (o b p p' : Nat) : Prop := ((o = 10 ∨ o = 11) ∧ p' = b) ∨ (o ≠ 10 ∧ o ≠ 18 ∧ p' = p + is_sz o)
/-! ===== kinds: a code c (0 int, 1 ref, 2 unset) in a set a of kinds (bits 1: unset, 2: int, 4: ref) ===== -/
def kd_m (c : Nat) : Nat := if c = 0 then 2 else if c = 1 then 4 else 1
def kd_in (c a : Nat) : Prop := a / kd_m c % 2 = 1
def kd_sub (a n : Nat) : Prop := ∀ c, c < 3 → kd_in c a → kd_in c n
/-! ===== ways: a way's state is a number st (place, kinds) and a height h ===== -/
def wy_p (st : Nat) : Nat := st / 1152
def wy_r (st : Nat) : Nat := st / 36 % 32
def wy_c (st s : Nat) : Nat := if s = 0 then st / 18 % 2 else if s = 1 then st / 9 % 2 else if s = 2 then st / 3 % 3 else if s = 3 then st % 3 else wy_r st / 2 ^ (s - 4) % 2
def wy_e (p r a b c d : Nat) : Nat := ((((p * 32 + r) * 2 + a) * 2 + b) * 3 + c) * 3 + d
def wy_ok (o b nm st h : Nat) : Prop := is_tk o ≤ h ∧ (1 ≤ is_tk o → kd_in (wy_c st (3 + h)) (is_n1 o b nm)) ∧ (is_tk o = 2 → kd_in (wy_c st (2 + h)) (is_n2 o)) ∧ (o = 1 → wy_c st b ≠ 2) ∧ (is_gv o = true → h - is_tk o < 5)
def wy_h (o h : Nat) : Nat := h - is_tk o + (if is_gv o = true then 1 else 0)
def wy_g (o b st : Nat) : Nat := if o = 1 then wy_c st b else if is_gk o b = 4 then 1 else 0
def wy_nr (o b st h : Nat) : Nat := wy_r st % 2 ^ (h - is_tk o) + (if is_gv o = true then wy_g o b st * 2 ^ (h - is_tk o) else 0)
def wy_nl (o b st h s : Nat) : Nat := if o = 2 ∧ s = b then wy_c st (3 + h) else wy_c st s
def wy_nx (o b st h p' : Nat) : Nat := wy_e p' (wy_nr o b st h) (wy_nl o b st h 0) (wy_nl o b st h 1) (wy_nl o b st h 2) (wy_nl o b st h 3)
def wy_i (nm : Nat) : Nat := wy_e 0 0 1 (if nm / 4 % 2 = 0 then 0 else 1) 2 2
/-- D: the method's bytes, L their number, nm the method's name -/
def Way (D : Nat → Nat) (L nm st h : Nat) : Prop := ∀ P : Nat → Nat → Prop, P (wy_i nm) 0 → (∀ st h p', P st h → wy_ok (D (wy_p st)) (D (wy_p st + 1)) nm st h → is_su (D (wy_p st)) (D (wy_p st + 1)) (wy_p st) p' → p' < L → P (wy_nx (D (wy_p st)) (D (wy_p st + 1)) st h p') (wy_h (D (wy_p st)) h)) → P st h
/-- some way is refused -/
def WBad (D : Nat → Nat) (L nm : Nat) : Prop := ∃ st h, Way D L nm st h ∧ (¬ wy_ok (D (wy_p st)) (D (wy_p st + 1)) nm st h ∨ (∃ p', is_su (D (wy_p st)) (D (wy_p st + 1)) (wy_p st) p' ∧ L ≤ p') ∨ (∃ st' h', Way D L nm st' h' ∧ wy_p st' = wy_p st ∧ h' ≠ h))
/-! ===== the class's transfer of sets of kinds ===== -/
def xk_t (o b : Nat) (k : Nat → Nat) (h s : Nat) : Nat := if s < 4 then (if o = 2 ∧ s = b then k (3 + h) else k s) else if s < 4 + (h - is_tk o) then k s else if o = 1 then k b else is_gk o b
def xk_ok (o b nm : Nat) (k : Nat → Nat) (h : Nat) : Prop := is_tk o ≤ h ∧ (1 ≤ is_tk o → kd_sub (k (3 + h)) (is_n1 o b nm)) ∧ (is_tk o = 2 → kd_sub (k (2 + h)) (is_n2 o)) ∧ (o = 1 → ¬ kd_in 2 (k b)) ∧ (is_gv o = true → h - is_tk o < 5)
/-! ===== what the form's check gives: S the instructions' first bytes ===== -/
def fo_OK (tc L : Nat) (D : Nat → Nat) (S : Nat → Prop) : Prop := 0 < L ∧ L ≤ 32 ∧ S 0 ∧ ∀ p, p < L → S p → D p < 21 ∧ p + is_sz (D p) ≤ L ∧ (p + is_sz (D p) < L → S (p + is_sz (D p))) ∧ (is_sg (D p) = false → is_opd tc (D p) (D (p + 1))) ∧ ((D p = 10 ∨ D p = 11) → D (p + 1) < L ∧ S (D (p + 1)))
/-! ===== what the flow's check gives of a method m ===== -/
def mk_OK (m tc L nm : Nat) (by' H K su : Nat → Int32) : Prop := ∃ S : Nat → Prop, fo_OK tc L (fun p => gm_n (by' (m * 32 + p))) S ∧ H (m * 32) = nI 0 ∧ (∀ s, s < 4 → kd_in (wy_c (wy_i nm) s) (gm_n (K ((m * 32 + 0) * 9 + s)))) ∧
  ∀ p, p < L → ∀ h, h ≤ 5 → H (m * 32 + p) = nI h → S p ∧ (∀ s, s < 4 + h → ∃ a, 0 < a ∧ a < 8 ∧ K ((m * 32 + p) * 9 + s) = nI a) ∧ xk_ok (gm_n (by' (m * 32 + p))) (gm_n (by' (m * 32 + p + 1))) nm (fun s => gm_n (K ((m * 32 + p) * 9 + s))) h ∧
    (∀ p', is_su (gm_n (by' (m * 32 + p))) (gm_n (by' (m * 32 + p + 1))) p p' → p' < L ∧ H (m * 32 + p') = nI (wy_h (gm_n (by' (m * 32 + p))) h) ∧ ∀ s, s < 4 + wy_h (gm_n (by' (m * 32 + p))) h → kd_sub (xk_t (gm_n (by' (m * 32 + p))) (gm_n (by' (m * 32 + p + 1))) (fun s => gm_n (K ((m * 32 + p) * 9 + s))) h s) (gm_n (K ((m * 32 + p') * 9 + s)))) ∧
    (∀ s, s < 4 + h → (K ((m * 32 + p) * 9 + s) = 4 ↔ bt (su (m * 32 + p)) s = true))
/-! ===== the relation's pieces ===== -/
/-- program: types, fields, names, lengths, bytes -/
def rl_P (tc mc : Nat) (ab fs own mN mL by' : Nat → Int32) : Prop := tc ≤ 5 ∧ mc ≤ 8 ∧ (∀ t, t < tc → ab t = -1 ∨ ∃ a, a < t ∧ ab t = nI a) ∧ (∀ m, gm_n (mN m) < 16 ∧ mN m = nI (gm_n (mN m))) ∧ (∀ m, gm_n (mL m) ≤ 32 ∧ mL m = nI (gm_n (mL m))) ∧ (∀ i, gm_n (by' i) < 256 ∧ by' i = nI (gm_n (by' i))) ∧
  (∀ t, t < tc → ∀ f, f < 16 → (bt (fs t) f = true ↔ (own (t * 16 + f) ≠ 0 ∨ ∃ a, a < t ∧ ab t = nI a ∧ bt (fs a) f = true)))
/-- objects: h of them were made since the last reset -/
def rl_H (h tc : Nat) (fs gl ot fv yg yt yf : Nat → Int32) : Prop := h ≤ 10 ∧ (∀ g, g < 2 → ∃ r, r ≤ h ∧ gl g = nI r ∧ yg g = yR r) ∧
  ∀ o, o < h → ∃ t, t < tc ∧ ot (o + 1) = nI t ∧ yt o = nI t ∧ (∀ f, f < 8 → fv ((o + 1) * 16 + f) = yf (o * 16 + f)) ∧ (∀ f, 8 ≤ f → f < 16 → ∃ r, r ≤ h ∧ fv ((o + 1) * 16 + f) = nI r ∧ yf (o * 16 + f) = yR r ∧ (bt (fs t) f = false → r = 0))
def rl_L (tc mc : Nat) (mN mL by' H K su : Nat → Int32) : Prop := ∀ m, m < mc → mk_OK m tc (gm_n (mL m)) (gm_n (mN m)) by' H K su
def rl_R (f_typeCount f_methodCount f_linked f_faultPlace f_flowHeight f_active f_ticksLeft f_outcome f_latestResult : Int32) (a_typeAbove a_fieldSet a_methodType a_methodName a_codeLength a_bytes a_isStart a_heightAt a_kindsAt a_isWaiting a_flowKinds a_globals a_objectType a_fieldValue a_isMarked a_frameMethod a_frameAt a_frameHeight a_slots : Nat → Int32) (g_types g_methods g_place g_result g_linked g_bad g_high g_refs g_active g_ticks g_code : Int32) (b_above b_ownField b_mType b_mName b_mLength b_bytes b_starts : Nat → Int32) (b_seen b_done : Nat → Int64) (b_heights b_local b_sure b_objType b_objField b_marked b_global b_fMethod b_fPc b_fHigh b_fLocal b_fEntry : Nat → Int32) : Prop := ∃ tc mc h : Nat, f_typeCount = nI tc ∧ g_types = nI tc ∧ f_methodCount = nI mc ∧ g_methods = nI mc ∧ f_linked = g_linked ∧ (f_linked = 0 ∨ f_linked = 1) ∧ f_faultPlace = g_place ∧ (f_linked ≠ 0 → f_faultPlace = -1) ∧ f_latestResult = g_result ∧ f_active = 0 ∧
  a_typeAbove = b_above ∧ a_methodType = b_mType ∧ a_methodName = b_mName ∧ a_codeLength = b_mLength ∧ a_bytes = b_bytes ∧
  rl_P tc mc a_typeAbove a_fieldSet b_ownField a_methodName a_codeLength a_bytes ∧ (∀ i, ∃ a, a < 8 ∧ a_kindsAt i = nI a) ∧
  rl_H h tc a_fieldSet a_globals a_objectType a_fieldValue b_global b_objType b_objField ∧ (0 < h → f_linked ≠ 0) ∧ (f_linked ≠ 0 → rl_L tc mc a_methodName a_codeLength a_bytes a_heightAt a_kindsAt b_sure)
def i_Rel (k : Nat) (u : SX) (v : SY) : Prop := match u, v with
  | (f_typeCount, f_methodCount, f_linked, f_faultPlace, f_flowHeight, f_active, f_ticksLeft, f_outcome, f_latestResult, a_typeAbove, a_fieldSet, a_methodType, a_methodName, a_codeLength, a_bytes, a_isStart, a_heightAt, a_kindsAt, a_isWaiting, a_flowKinds, a_globals, a_objectType, a_fieldValue, a_isMarked, a_frameMethod, a_frameAt, a_frameHeight, a_slots), (g_types, g_methods, g_place, g_result, g_linked, g_bad, g_high, g_refs, g_active, g_ticks, g_code, b_above, b_ownField, b_mType, b_mName, b_mLength, b_bytes, b_starts, b_seen, b_done, b_heights, b_local, b_sure, b_objType, b_objField, b_marked, b_global, b_fMethod, b_fPc, b_fHigh, b_fLocal, b_fEntry) => rl_R f_typeCount f_methodCount f_linked f_faultPlace f_flowHeight f_active f_ticksLeft f_outcome f_latestResult a_typeAbove a_fieldSet a_methodType a_methodName a_codeLength a_bytes a_isStart a_heightAt a_kindsAt a_isWaiting a_flowKinds a_globals a_objectType a_fieldValue a_isMarked a_frameMethod a_frameAt a_frameHeight a_slots g_types g_methods g_place g_result g_linked g_bad g_high g_refs g_active g_ticks g_code b_above b_ownField b_mType b_mName b_mLength b_bytes b_starts b_seen b_done b_heights b_local b_sure b_objType b_objField b_marked b_global b_fMethod b_fPc b_fHigh b_fLocal b_fEntry
theorem i_up {k : Nat} {u : SX} {v : SY} (h : i_Rel k u v) : i_Rel (k + 4) u v := h
end
section
/-! ===== bits ===== -/
theorem gm_1b : ∀ i, i < 32 → bt 1 i = decide (i = 0) := by decide +kernel
theorem gm_bit (x : Int32) {f : Nat} (hf : f < 32) : (x >>> (nI f &&& 31)) &&& 1 = if bt x f = true then 1 else 0 := by
  apply b_ext
  intro i hi
  rw [b_and, b_sshr f hf x hi, gm_1b i hi]
  by_cases h0 : i = 0
  · subst h0
    rw [if_pos (by omega)]
    cases h : bt x f <;> simp [h, gm_1b 0 (by omega), b_0]
  · simp [h0]
    split
    · rw [gm_1b i hi]; simp [h0]
    · rw [b_0]
theorem gm_bit1 (x : Int32) {f : Nat} (hf : f < 32) : ((x >>> (nI f &&& 31)) &&& 1 = 1) = (bt x f = true) := by
  rw [gm_bit x hf]
  cases bt x f <;> simp
theorem gm_bit0 (x : Int32) {f : Nat} (hf : f < 32) : ((x >>> (nI f &&& 31)) &&& 1 = 0) = (bt x f = false) := by
  rw [gm_bit x hf]
  cases bt x f <;> simp
theorem gm_set (x : Int32) {f i : Nat} (hf : f < 32) (hi : i < 32) : bt (x ||| ((1 : Int32) <<< (nI f &&& 31))) i = (bt x i || decide (i = f)) := by
  rw [b_or, b_shl f hf 1 hi]
  congr 1
  by_cases h : f ≤ i
  · rw [gm_1b (i - f) (by omega)]
    by_cases h2 : i = f
    · subst h2; simp
    · have h3 : i - f ≠ 0 := by omega
      simp [h2, h3]
  · have h2 : i ≠ f := by omega
    simp [h, h2]
def cf (x : Int32) : Nat → Nat
  | 0 => 0
  | j + 1 => cf x j + (if bt x j = true then 1 else 0)
theorem cf_le (x : Int32) : ∀ j, cf x j ≤ j
  | 0 => Nat.le_refl 0
  | j + 1 => by
    have := cf_le x j
    unfold cf
    split <;> omega
/-! ===== the class's small methods ===== -/
theorem ev_hasField (f_typeCount f_methodCount f_linked f_faultPlace f_flowHeight f_active f_ticksLeft f_outcome f_latestResult : Int32) (a_typeAbove a_fieldSet a_methodType a_methodName a_codeLength a_bytes a_isStart a_heightAt a_kindsAt a_isWaiting a_flowKinds a_globals a_objectType a_fieldValue a_isMarked a_frameMethod a_frameAt a_frameHeight a_slots : Nat → Int32) {post : Int32 → Prop} {t f : Nat} (ht : t < 5) (hf : f < 16) (J : post (if bt (a_fieldSet t) f = true then 1 else 0)) : wpX_hasField post (f_typeCount, f_methodCount, f_linked, f_faultPlace, f_flowHeight, f_active, f_ticksLeft, f_outcome, f_latestResult, a_typeAbove, a_fieldSet, a_methodType, a_methodName, a_codeLength, a_bytes, a_isStart, a_heightAt, a_kindsAt, a_isWaiting, a_flowKinds, a_globals, a_objectType, a_fieldValue, a_isMarked, a_frameMethod, a_frameAt, a_frameHeight, a_slots) (nI t) (nI f) := by
  unfold wpX_hasField
  simp (disch := omega) only [nI_clamp, gm_clL, gm_in, gm_inL, gm_ml, gm_al, gm_la, gm_sl, nI_add, pk_mul, gm_eqL, gm_leL, gm_ltL, gm_Lle, gm_Llt, gm_eq, gm_le, gm_lt, gm_m1, forall_eq, true_and, Nat.not_lt_zero, Nat.add_sub_cancel, gm_z2, gm_z3, gm_z9, gm_z16, gm_z18, gm_z32, gm_z36, gm_z64, gm_z1152, not_true_eq_false, not_false_eq_true, false_implies, true_implies, and_true, implies_true, gm_bit1]
  cases h : bt (a_fieldSet t) f
  · rw [h] at J; exact br_f (by decide) J
  · rw [h] at J; exact br_t rfl J
theorem ev_cnt (f_typeCount f_methodCount f_linked f_faultPlace f_flowHeight f_active f_ticksLeft f_outcome f_latestResult : Int32) (a_typeAbove a_fieldSet a_methodType a_methodName a_codeLength a_bytes a_isStart a_heightAt a_kindsAt a_isWaiting a_flowKinds a_globals a_objectType a_fieldValue a_isMarked a_frameMethod a_frameAt a_frameHeight a_slots : Nat → Int32) {post : Int32 → Prop} {t : Nat} (ht : t < 5) (J : post (nI (cf (a_fieldSet t) 16))) : ∀ d j, j + d = 16 → wX_countFields_4 post (nI t) f_typeCount f_methodCount f_linked f_faultPlace f_flowHeight f_active f_ticksLeft f_outcome f_latestResult a_typeAbove a_fieldSet a_methodType a_methodName a_codeLength a_bytes a_isStart a_heightAt a_kindsAt a_isWaiting a_flowKinds a_globals a_objectType a_fieldValue a_isMarked a_frameMethod a_frameAt a_frameHeight a_slots (d + 1) (nI (cf (a_fieldSet t) j)) (nI j) := by
  intro d
  induction d with
  | zero =>
    intro j hj
    cases (show j = 16 by omega)
    unfold wX_countFields_4
    exact br_t (by decide) J
  | succ d ih =>
    intro j hj
    have h := ih (j + 1) (by omega)
    have hc := cf_le (a_fieldSet t) j
    unfold wX_countFields_4
    simp (disch := omega) only [nI_clamp, gm_clL, gm_in, gm_inL, gm_ml, gm_al, gm_la, gm_sl, nI_add, pk_mul, gm_eqL, gm_leL, gm_ltL, gm_Lle, gm_Llt, gm_eq, gm_le, gm_lt, gm_m1, forall_eq, true_and, Nat.not_lt_zero, Nat.add_sub_cancel, gm_z2, gm_z3, gm_z9, gm_z16, gm_z18, gm_z32, gm_z36, gm_z64, gm_z1152, not_true_eq_false, not_false_eq_true, false_implies, true_implies, and_true, implies_true, gm_bit]
    refine ⟨fun z => absurd z (by omega), fun _ => ?_⟩
    have e : nI (cf (a_fieldSet t) j) + (if bt (a_fieldSet t) j = true then 1 else 0) = nI (cf (a_fieldSet t) (j + 1)) := by
      show _ = nI (cf (a_fieldSet t) j + _)
      split
      · exact nI_1 _
      · exact nI_add _ 0
    rw [e]
    exact h
theorem ev_countFields (f_typeCount f_methodCount f_linked f_faultPlace f_flowHeight f_active f_ticksLeft f_outcome f_latestResult : Int32) (a_typeAbove a_fieldSet a_methodType a_methodName a_codeLength a_bytes a_isStart a_heightAt a_kindsAt a_isWaiting a_flowKinds a_globals a_objectType a_fieldValue a_isMarked a_frameMethod a_frameAt a_frameHeight a_slots : Nat → Int32) {post : Int32 → Prop} {t : Nat} (ht : t < 5) (J : post (nI (cf (a_fieldSet t) 16))) : wpX_countFields post (f_typeCount, f_methodCount, f_linked, f_faultPlace, f_flowHeight, f_active, f_ticksLeft, f_outcome, f_latestResult, a_typeAbove, a_fieldSet, a_methodType, a_methodName, a_codeLength, a_bytes, a_isStart, a_heightAt, a_kindsAt, a_isWaiting, a_flowKinds, a_globals, a_objectType, a_fieldValue, a_isMarked, a_frameMethod, a_frameAt, a_frameHeight, a_slots) (nI t) := ⟨17, ev_cnt f_typeCount f_methodCount f_linked f_faultPlace f_flowHeight f_active f_ticksLeft f_outcome f_latestResult a_typeAbove a_fieldSet a_methodType a_methodName a_codeLength a_bytes a_isStart a_heightAt a_kindsAt a_isWaiting a_flowKinds a_globals a_objectType a_fieldValue a_isMarked a_frameMethod a_frameAt a_frameHeight a_slots ht J 16 0 rfl⟩
/-! ===== the reference's hasField ===== -/
theorem ev_yh (g_types g_methods g_place g_result g_linked g_bad g_high g_refs g_active g_ticks g_code : Int32) (b_above b_ownField b_mType b_mName b_mLength b_bytes b_starts : Nat → Int32) (b_seen b_done : Nat → Int64) (b_heights b_local b_sure b_objType b_objField b_marked b_global b_fMethod b_fPc b_fHigh b_fLocal b_fEntry : Nat → Int32) {post : Int32 → Prop} {tc mc f : Nat} {fs mN mL by' : Nat → Int32} (P : rl_P tc mc b_above fs b_ownField mN mL by') (hf : f < 16) :
    ∀ t, t < tc → post (if bt (fs t) f = true then 1 else 0) → ∀ n, t + 2 ≤ n → wY_hasField_2 post (nI f) g_types g_methods g_place g_result g_linked g_bad g_high g_refs g_active g_ticks g_code b_above b_ownField b_mType b_mName b_mLength b_bytes b_starts b_seen b_done b_heights b_local b_sure b_objType b_objField b_marked b_global b_fMethod b_fPc b_fHigh b_fLocal b_fEntry n (nI t) := by
  obtain ⟨h5, -, hab, -, -, -, hfs⟩ := P
  intro t
  induction t using Nat.strongRecOn with
  | ind t ih =>
    intro ht J n hn
    obtain ⟨n, rfl⟩ : ∃ k, n = k + 1 := ⟨n - 1, by omega⟩
    have hb := hfs t ht f hf
    unfold wY_hasField_2
    simp (disch := omega) only [nI_clamp, gm_clL, gm_in, gm_inL, gm_ml, gm_al, gm_la, gm_sl, nI_add, pk_mul, gm_eqL, gm_leL, gm_ltL, gm_Lle, gm_Llt, gm_eq, gm_le, gm_lt, gm_m1, forall_eq, true_and, Nat.not_lt_zero, Nat.add_sub_cancel, gm_z2, gm_z3, gm_z9, gm_z16, gm_z18, gm_z32, gm_z36, gm_z64, gm_z1152, not_true_eq_false, not_false_eq_true, false_implies, true_implies, and_true, implies_true]
    by_cases ho : b_ownField (t * 16 + f) = 0
    · refine br_t ho ?_
      rcases hab t ht with e | ⟨a, ha, e⟩
      · have hb0 : bt (fs t) f = false := by
          cases h : bt (fs t) f
          · rfl
          · rcases hb.mp h with z | ⟨a, ha, e2, _⟩
            · exact absurd ho z
            · have hm := gm_m1 (a := a) (by omega)
              rw [← e2, e] at hm
              exact absurd rfl (of_eq_false hm)
        rw [hb0] at J
        rw [e]
        obtain ⟨n, rfl⟩ : ∃ k, n = k + 1 := ⟨n - 1, by omega⟩
        exact br_t (by decide) J
      · rw [e]
        have hb1 : bt (fs t) f = bt (fs a) f := by
          cases h : bt (fs a) f
          · cases h2 : bt (fs t) f
            · rfl
            · rcases hb.mp h2 with z | ⟨a', ha', e2, h3⟩
              · exact absurd ho z
              · rw [e] at e2
                rw [(nI_eq (by omega) (by omega)).mp e2, h3] at h
                exact absurd h (by decide)
          · exact hb.mpr (Or.inr ⟨a, ha, e, h⟩)
        rw [hb1] at J
        exact ih a ha (by omega) J n (by omega)
    · refine br_f ho ?_
      rw [hb.mpr (Or.inl ho)] at J
      exact J
theorem ev_yhas (g_types g_methods g_place g_result g_linked g_bad g_high g_refs g_active g_ticks g_code : Int32) (b_above b_ownField b_mType b_mName b_mLength b_bytes b_starts : Nat → Int32) (b_seen b_done : Nat → Int64) (b_heights b_local b_sure b_objType b_objField b_marked b_global b_fMethod b_fPc b_fHigh b_fLocal b_fEntry : Nat → Int32) {post : Int32 → Prop} {tc mc f t : Nat} {fs mN mL by' : Nat → Int32} (P : rl_P tc mc b_above fs b_ownField mN mL by') (hf : f < 16) (ht : t < tc) (J : post (if bt (fs t) f = true then 1 else 0)) : wpY_hasField post (g_types, g_methods, g_place, g_result, g_linked, g_bad, g_high, g_refs, g_active, g_ticks, g_code, b_above, b_ownField, b_mType, b_mName, b_mLength, b_bytes, b_starts, b_seen, b_done, b_heights, b_local, b_sure, b_objType, b_objField, b_marked, b_global, b_fMethod, b_fPc, b_fHigh, b_fLocal, b_fEntry) (nI t) (nI f) := ⟨t + 2, ev_yh g_types g_methods g_place g_result g_linked g_bad g_high g_refs g_active g_ticks g_code b_above b_ownField b_mType b_mName b_mLength b_bytes b_starts b_seen b_done b_heights b_local b_sure b_objType b_objField b_marked b_global b_fMethod b_fPc b_fHigh b_fLocal b_fEntry P hf t ht J _ (by omega)⟩
end
section
theorem gp_n0 : gm_n 0 = 0 := by decide
theorem gp_nI {n : Nat} (h : n < 2 ^ 31) : gm_n (nI n) = n := nI_clamp h
theorem i_vc0 : wpX_init (fun u => wpY_init (fun v => i_Rel 0 u v)) := by
  unfold wpX_init wpY_init
  intro g1 e1 g2 e2
  subst e1 e2
  refine ⟨0, 0, 0, rfl, rfl, rfl, rfl, rfl, Or.inl rfl, rfl, fun h => absurd rfl h, rfl, rfl, rfl, rfl, rfl, rfl, rfl, ?_, fun i => ⟨0, by omega, rfl⟩, ?_, fun h => absurd h (by omega), fun h => absurd rfl h⟩
  · refine ⟨by omega, by omega, fun t h => absurd h (by omega), fun m => ⟨?_, ?_⟩, fun m => ⟨?_, ?_⟩, fun m => ⟨?_, ?_⟩, fun t h => absurd h (by omega)⟩
    · show gm_n 0 < 16; decide
    · show (0 : Int32) = nI (gm_n 0); decide
    · show gm_n 0 ≤ 32; decide
    · show (0 : Int32) = nI (gm_n 0); decide
    · show gm_n 0 < 256; decide
    · show (0 : Int32) = nI (gm_n 0); decide
  · refine ⟨by omega, fun g hg => ⟨0, by omega, rfl, ?_⟩, fun o h => absurd h (by omega)⟩
    rcases (by omega : g = 0 ∨ g = 1) with rfl | rfl
    · decide
    · decide
theorem i_vc_place {k : Nat} {u : SX} {v : SY} (I : i_Rel k u v) (hk : k + 4 ≤ 2048) : wpX_place (fun r => wpY_place (fun r' => r' = r ∧ i_Rel (k + 4) u v) v) u := by
  obtain ⟨f_typeCount, f_methodCount, f_linked, f_faultPlace, f_flowHeight, f_active, f_ticksLeft, f_outcome, f_latestResult, a_typeAbove, a_fieldSet, a_methodType, a_methodName, a_codeLength, a_bytes, a_isStart, a_heightAt, a_kindsAt, a_isWaiting, a_flowKinds, a_globals, a_objectType, a_fieldValue, a_isMarked, a_frameMethod, a_frameAt, a_frameHeight, a_slots⟩ := u
  obtain ⟨g_types, g_methods, g_place, g_result, g_linked, g_bad, g_high, g_refs, g_active, g_ticks, g_code, b_above, b_ownField, b_mType, b_mName, b_mLength, b_bytes, b_starts, b_seen, b_done, b_heights, b_local, b_sure, b_objType, b_objField, b_marked, b_global, b_fMethod, b_fPc, b_fHigh, b_fLocal, b_fEntry⟩ := v
  have I' := I
  obtain ⟨tc, mc, h, -, -, -, -, -, -, hp, -⟩ := I
  exact ⟨hp.symm, I'⟩
theorem i_vc_result {k : Nat} {u : SX} {v : SY} (I : i_Rel k u v) (hk : k + 4 ≤ 2048) : wpX_result (fun r => wpY_result (fun r' => r' = r ∧ i_Rel (k + 4) u v) v) u := by
  obtain ⟨f_typeCount, f_methodCount, f_linked, f_faultPlace, f_flowHeight, f_active, f_ticksLeft, f_outcome, f_latestResult, a_typeAbove, a_fieldSet, a_methodType, a_methodName, a_codeLength, a_bytes, a_isStart, a_heightAt, a_kindsAt, a_isWaiting, a_flowKinds, a_globals, a_objectType, a_fieldValue, a_isMarked, a_frameMethod, a_frameAt, a_frameHeight, a_slots⟩ := u
  obtain ⟨g_types, g_methods, g_place, g_result, g_linked, g_bad, g_high, g_refs, g_active, g_ticks, g_code, b_above, b_ownField, b_mType, b_mName, b_mLength, b_bytes, b_starts, b_seen, b_done, b_heights, b_local, b_sure, b_objType, b_objField, b_marked, b_global, b_fMethod, b_fPc, b_fHigh, b_fLocal, b_fEntry⟩ := v
  have I' := I
  obtain ⟨tc, mc, h, -, -, -, -, -, -, -, -, hp, -⟩ := I
  exact ⟨hp.symm, I'⟩
/-! ===== type ===== -/
theorem ev_ytl (g_types g_methods g_place g_result g_linked g_bad g_high g_refs g_active g_ticks g_code : Int32) (b_above b_ownField b_mType b_mName b_mLength b_bytes b_starts : Nat → Int32) (b_seen b_done : Nat → Int64) (b_heights b_local b_sure b_objType b_objField b_marked b_global b_fMethod b_fPc b_fHigh b_fLocal b_fEntry : Nat → Int32) {tc : Nat} (ht : tc < 5) (e : g_types = nI tc) : ∀ d j, j + d = 16 → ∀ own : Nat → Int32, ∃ own' : Nat → Int32, (∀ i, i < tc * 16 + j → own' i = own i) ∧ (∀ f, j ≤ f → f < 16 → own' (tc * 16 + f) = 0) ∧ ∀ post : Int32 → SY → Prop, post (nI tc) (nI (tc + 1), g_methods, g_place, g_result, g_linked, g_bad, g_high, g_refs, g_active, g_ticks, g_code, b_above, own', b_mType, b_mName, b_mLength, b_bytes, b_starts, b_seen, b_done, b_heights, b_local, b_sure, b_objType, b_objField, b_marked, b_global, b_fMethod, b_fPc, b_fHigh, b_fLocal, b_fEntry) → wY_type_42 post g_types g_methods g_place g_result g_linked g_bad g_high g_refs g_active g_ticks g_code (d + 1) (nI j) b_above own b_mType b_mName b_mLength b_bytes b_starts b_seen b_done b_heights b_local b_sure b_objType b_objField b_marked b_global b_fMethod b_fPc b_fHigh b_fLocal b_fEntry := by
  subst e
  intro d
  induction d with
  | zero =>
    intro j hj own
    refine ⟨own, fun _ _ => rfl, fun f h1 h2 => absurd h2 (by omega), fun post J => ?_⟩
    unfold wY_type_42
    simp (disch := omega) only [nI_clamp, gm_clL, gm_in, gm_inL, gm_ml, gm_al, gm_la, gm_sl, nI_add, pk_mul, gm_eqL, gm_leL, gm_ltL, gm_Lle, gm_Llt, gm_eq, gm_le, gm_lt, gm_m1, forall_eq, true_and, Nat.not_lt_zero, Nat.add_sub_cancel, gm_z2, gm_z3, gm_z9, gm_z16, gm_z18, gm_z32, gm_z36, gm_z64, gm_z1152, not_true_eq_false, not_false_eq_true, false_implies, true_implies, and_true, implies_true]
    refine ⟨fun _ => ?_, fun z => absurd (show 16 ≤ j by omega) z⟩
    exact J
  | succ d ih =>
    intro j hj own
    obtain ⟨own', h1, h2, h3⟩ := ih (j + 1) (by omega) (upd own (tc * 16 + j) 0)
    refine ⟨own', fun i hi => ?_, fun f hf hf2 => ?_, fun post J => ?_⟩
    · rw [h1 i (by omega), pk_un (by omega)]
    · by_cases e : f = j
      · subst e
        rw [h1 _ (by omega), pk_us]
      · exact h2 f (by omega) hf2
    · unfold wY_type_42
      simp (disch := omega) only [nI_clamp, gm_clL, gm_in, gm_inL, gm_ml, gm_al, gm_la, gm_sl, nI_add, pk_mul, gm_eqL, gm_leL, gm_ltL, gm_Lle, gm_Llt, gm_eq, gm_le, gm_lt, gm_m1, forall_eq, true_and, Nat.not_lt_zero, Nat.add_sub_cancel, gm_z2, gm_z3, gm_z9, gm_z16, gm_z18, gm_z32, gm_z36, gm_z64, gm_z1152, not_true_eq_false, not_false_eq_true, false_implies, true_implies, and_true, implies_true, gm_nb0]
      exact ⟨fun z => absurd z (by omega), fun _ => h3 post J⟩
theorem rl_Pt {tc mc : Nat} {ab fs own mN mL by' own' : Nat → Int32} {x fx : Int32} (P : rl_P tc mc ab fs own mN mL by') (ht : tc < 5) (hx : x = -1 ∨ ∃ a, a < tc ∧ x = nI a) (hf : ∀ f, f < 16 → (bt fx f = true ↔ ∃ a, a < tc ∧ x = nI a ∧ bt (fs a) f = true)) (h1 : ∀ i, i < tc * 16 + 0 → own' i = own i) (h2 : ∀ f, 0 ≤ f → f < 16 → own' (tc * 16 + f) = 0) : rl_P (tc + 1) mc (upd ab tc x) (upd fs tc fx) own' mN mL by' := by
  obtain ⟨a1, a2, a3, a4, a5, a6, a7⟩ := P
  refine ⟨by omega, a2, fun t h => ?_, a4, a5, a6, fun t h f hf' => ?_⟩
  · by_cases e : t = tc
    · subst e
      rw [pk_us]; exact hx
    · rw [pk_un e]; exact a3 t (by omega)
  · by_cases e : t = tc
    · subst e
      rw [pk_us, pk_us, hf f hf', h2 f (by omega) hf']
      constructor
      · rintro ⟨a, ha, e, hb⟩
        exact Or.inr ⟨a, ha, e, by rw [pk_un (by omega)]; exact hb⟩
      · rintro (z | ⟨a, ha, e, hb⟩)
        · exact absurd rfl z
        · rw [pk_un (by omega)] at hb
          exact ⟨a, ha, e, hb⟩
    · rw [pk_un e, pk_un e, h1 _ (by omega), a7 t (by omega) f hf']
      constructor
      · rintro (z | ⟨a, ha, e2, hb⟩)
        · exact Or.inl z
        · exact Or.inr ⟨a, ha, e2, by rw [pk_un (by omega)]; exact hb⟩
      · rintro (z | ⟨a, ha, e2, hb⟩)
        · exact Or.inl z
        · rw [pk_un (by omega)] at hb
          exact Or.inr ⟨a, ha, e2, hb⟩
theorem rl_H0 {h tc tc' : Nat} {fs fs' gl ot fv yg yt yf : Nat → Int32} (H : rl_H h tc fs gl ot fv yg yt yf) (h0 : h = 0) : rl_H 0 tc' fs' gl ot fv yg yt yf := by
  subst h0
  exact ⟨by omega, H.2.1, fun o ho => absurd ho (by omega)⟩
theorem gp_lt1 {x : Int32} (h : x < 0) (h2 : x ≠ -1) : x < -1 := by
  rw [Int32.lt_iff_toInt_lt] at h ⊢
  have h3 : x.toInt ≠ (-1 : Int32).toInt := fun e => h2 (Int32.toInt_inj.mp e)
  have e1 : (-1 : Int32).toInt = -1 := by decide
  have e0 : (0 : Int32).toInt = 0 := by decide
  omega
theorem gp_m1lt {n : Nat} (h : n < 2 ^ 31) : (-1 : Int32) < nI n := by
  rw [Int32.lt_iff_toInt_lt, nI_toInt h]
  have e1 : (-1 : Int32).toInt = -1 := by decide
  omega
theorem gp_nIm1 {n : Nat} (h : n < 2 ^ 31) : ¬ nI n < (-1 : Int32) := by
  rw [Int32.lt_iff_toInt_lt, nI_toInt h]
  have e1 : (-1 : Int32).toInt = -1 := by decide
  omega
theorem i_vc_type {k : Nat} {u : SX} {v : SY} (I : i_Rel k u v) (hk : k + 4 ≤ 2048) (v1 : Int32) : wpX_type (fun r u' => wpY_type (fun r' v' => r' = r ∧ i_Rel (k + 4) u' v') v v1) u v1 := by
  obtain ⟨f_typeCount, f_methodCount, f_linked, f_faultPlace, f_flowHeight, f_active, f_ticksLeft, f_outcome, f_latestResult, a_typeAbove, a_fieldSet, a_methodType, a_methodName, a_codeLength, a_bytes, a_isStart, a_heightAt, a_kindsAt, a_isWaiting, a_flowKinds, a_globals, a_objectType, a_fieldValue, a_isMarked, a_frameMethod, a_frameAt, a_frameHeight, a_slots⟩ := u
  obtain ⟨g_types, g_methods, g_place, g_result, g_linked, g_bad, g_high, g_refs, g_active, g_ticks, g_code, b_above, b_ownField, b_mType, b_mName, b_mLength, b_bytes, b_starts, b_seen, b_done, b_heights, b_local, b_sure, b_objType, b_objField, b_marked, b_global, b_fMethod, b_fPc, b_fHigh, b_fLocal, b_fEntry⟩ := v
  have I' := I
  obtain ⟨tc, mc, h, rfl, rfl, rfl, rfl, rfl, hl, rfl, hfp, rfl, rfl, rfl, rfl, rfl, rfl, rfl, P, KB, H, hh, hL⟩ := I
  unfold wpX_type
  have h5 := P.1
  rcases hl with rfl | rfl
  · have h0 : h = 0 := by
      rcases Nat.eq_zero_or_pos h with z | z
      · exact z
      · exact absurd rfl (hh z)
    refine br_t rfl ?_
    by_cases e5 : tc = 5
    · subst e5
      exact br_t rfl (by unfold wpY_type; exact br_t rfl (br_t rfl ⟨rfl, I'⟩))
    · have n5 : ¬ nI tc = 5 := by rw [gm_eqL (by omega) (by omega)]; exact e5
      refine br_f n5 ?_
      by_cases em : v1 = -1
      · subst em
        refine br_t rfl ?_
        unfold wX_type_32
        refine ⟨vp_in_nI (by omega) (by omega), nm_e (br_t rfl ?_)⟩
        unfold wX_type_64
        refine ⟨vp_in_nI (by omega) (by omega), nm_e (nm_r (nI_1 tc) ?_)⟩
        unfold wpY_type
        obtain ⟨own', o1, o2, o3⟩ := ev_ytl (nI tc) (nI mc) f_faultPlace f_latestResult 0 g_bad g_high g_refs g_active g_ticks g_code (upd a_typeAbove tc (-1)) b_ownField a_methodType a_methodName a_codeLength a_bytes b_starts b_seen b_done b_heights b_local b_sure b_objType b_objField b_marked b_global b_fMethod b_fPc b_fHigh b_fLocal b_fEntry (by omega) rfl 16 0 rfl b_ownField
        refine br_t rfl (br_f n5 (br_f (by decide) (br_t (gp_m1lt (by omega)) ⟨vp_in_nI (by omega) (by omega), nm_e ⟨17, ?_⟩⟩)))
        rw [nI_clamp (by omega)]
        refine o3 _ ⟨rfl, tc + 1, mc, 0, rfl, rfl, rfl, rfl, rfl, Or.inl rfl, rfl, hfp, rfl, rfl, rfl, rfl, rfl, rfl, rfl, ?_, KB, rl_H0 H h0, fun z => absurd z (by omega), fun z => absurd rfl z⟩
        exact rl_Pt P (by omega) (Or.inl rfl) (fun f hf => ⟨fun z => by rw [b_0] at z; exact absurd z (by decide), fun ⟨a, ha, e, _⟩ => by have := gm_m1 (a := a) (by omega); rw [← e] at this; exact absurd rfl (of_eq_false this)⟩) o1 o2
      · refine br_f em ?_
        unfold wpX_isType
        rcases pk_ix v1 (n := tc) (by omega) with z | z | ⟨a, ha, rfl⟩
        · refine br_t z (br_t rfl ?_)
          unfold wpY_type
          exact br_t rfl (br_f n5 (br_t (gp_lt1 z em) ⟨rfl, I'⟩))
        · have z0 : ¬ v1 < 0 := by
            rw [Int32.not_lt]; exact Int32.le_trans (nI_pos' (by omega)) z
          have z1 : ¬ v1 < -1 := by
            rw [Int32.not_lt]; exact Int32.le_trans (by decide) (Int32.not_lt.mp z0)
          refine br_f z0 (br_t z (br_t rfl ?_))
          unfold wpY_type
          exact br_t rfl (br_f n5 (br_f z1 (br_f (Int32.not_lt.mpr z) ⟨rfl, I'⟩)))
        · refine br_f (nI_pos (by omega)) (br_f (nI_ge ha (by omega)) (br_f (by decide) ?_))
          unfold wX_type_32
          refine ⟨vp_in_nI (by omega) (by omega), nm_e (br_f em ⟨vp_in_nI (by omega) (by omega), ?_⟩)⟩
          unfold wX_type_64
          refine ⟨vp_in_nI (by omega) (by omega), nm_e (nm_r (nI_1 tc) ?_)⟩
          rw [nI_clamp (by omega), nI_clamp (by omega)]
          unfold wpY_type
          obtain ⟨own', o1, o2, o3⟩ := ev_ytl (nI tc) (nI mc) f_faultPlace f_latestResult 0 g_bad g_high g_refs g_active g_ticks g_code (upd a_typeAbove tc (nI a)) b_ownField a_methodType a_methodName a_codeLength a_bytes b_starts b_seen b_done b_heights b_local b_sure b_objType b_objField b_marked b_global b_fMethod b_fPc b_fHigh b_fLocal b_fEntry (by omega) rfl 16 0 rfl b_ownField
          refine br_t rfl (br_f n5 (br_f (gp_nIm1 (by omega)) (br_t (nI_lt ha (by omega)) ⟨vp_in_nI (by omega) (by omega), nm_e ⟨17, ?_⟩⟩)))
          rw [nI_clamp (by omega)]
          refine o3 _ ⟨rfl, tc + 1, mc, 0, rfl, rfl, rfl, rfl, rfl, Or.inl rfl, rfl, hfp, rfl, rfl, rfl, rfl, rfl, rfl, rfl, ?_, KB, rl_H0 H h0, fun z => absurd z (by omega), fun z => absurd rfl z⟩
          exact rl_Pt P (by omega) (Or.inr ⟨a, ha, rfl⟩) (fun f hf => ⟨fun z => ⟨a, ha, rfl, z⟩, fun ⟨a', ha', e, z⟩ => by rw [(nI_eq (by omega) (by omega)).mp e]; exact z⟩) o1 o2
  · refine br_f (by decide) ?_
    unfold wpY_type
    exact br_f (by decide) ⟨rfl, I'⟩
end
section
/-! ===== ranges of an argument ===== -/
theorem gq_rng (x : Int32) {n : Nat} (hn : n < 2 ^ 31) : x < 0 ∨ (¬ x < 0 ∧ nI n ≤ x) ∨ ∃ j : Nat, j < n ∧ x = nI j := by
  rcases pk_ix x hn with z | z | z
  · exact Or.inl z
  · refine Or.inr (Or.inl ⟨?_, z⟩)
    rw [Int32.not_lt]
    exact Int32.le_trans (nI_pos' hn) z
  · exact Or.inr (Or.inr z)
theorem gq_nle {x : Int32} {n : Nat} (hn : n + 1 < 2 ^ 31) (h : nI (n + 1) ≤ x) : ¬ x ≤ nI n := by
  rw [Int32.le_iff_toInt_le, nI_toInt hn] at h
  rw [Int32.le_iff_toInt_le, nI_toInt (by omega)]
  omega
theorem gq_lt {x : Int32} {n : Nat} (hn : n + 1 < 2 ^ 31) (h : nI (n + 1) ≤ x) : nI n < x := by
  rw [Int32.le_iff_toInt_le, nI_toInt hn] at h
  rw [Int32.lt_iff_toInt_lt, nI_toInt (by omega)]
  omega
theorem ev_isName {post : Int32 → Prop} {n : Nat} (hn : n < 16) (J : post 1) : wpX_isName post (nI n) := br_f (nI_pos (by omega)) (br_f (nI_ge (b := 16) hn (by decide)) J)
theorem ev_isNameF {post : Int32 → Prop} {x : Int32} (h : x < 0 ∨ (¬ x < 0 ∧ nI 16 ≤ x)) (J : post 0) : wpX_isName post x := by
  rcases h with h | ⟨h, h2⟩
  · exact br_t h J
  · exact br_f h (br_t h2 J)
theorem ev_isGlobal {post : Int32 → Prop} {n : Nat} (hn : n < 2) (J : post 1) : wpX_isGlobal post (nI n) := br_f (nI_pos (by omega)) (br_f (nI_ge (b := 2) hn (by decide)) J)
theorem ev_isGlobalF {post : Int32 → Prop} {x : Int32} (h : x < 0 ∨ (¬ x < 0 ∧ nI 2 ≤ x)) (J : post 0) : wpX_isGlobal post x := by
  rcases h with h | ⟨h, h2⟩
  · exact br_t h J
  · exact br_f h (br_t h2 J)
theorem ev_isType (f_methodCount f_linked f_faultPlace f_flowHeight f_active f_ticksLeft f_outcome f_latestResult : Int32) (a_typeAbove a_fieldSet a_methodType a_methodName a_codeLength a_bytes a_isStart a_heightAt a_kindsAt a_isWaiting a_flowKinds a_globals a_objectType a_fieldValue a_isMarked a_frameMethod a_frameAt a_frameHeight a_slots : Nat → Int32) {post : Int32 → Prop} {n tc : Nat} (hn : n < tc) (ht : tc ≤ 5) (J : post 1) : wpX_isType post (nI tc, f_methodCount, f_linked, f_faultPlace, f_flowHeight, f_active, f_ticksLeft, f_outcome, f_latestResult, a_typeAbove, a_fieldSet, a_methodType, a_methodName, a_codeLength, a_bytes, a_isStart, a_heightAt, a_kindsAt, a_isWaiting, a_flowKinds, a_globals, a_objectType, a_fieldValue, a_isMarked, a_frameMethod, a_frameAt, a_frameHeight, a_slots) (nI n) := br_f (nI_pos (by omega)) (br_f (nI_ge hn (by omega)) J)
theorem ev_isTypeF (f_methodCount f_linked f_faultPlace f_flowHeight f_active f_ticksLeft f_outcome f_latestResult : Int32) (a_typeAbove a_fieldSet a_methodType a_methodName a_codeLength a_bytes a_isStart a_heightAt a_kindsAt a_isWaiting a_flowKinds a_globals a_objectType a_fieldValue a_isMarked a_frameMethod a_frameAt a_frameHeight a_slots : Nat → Int32) {post : Int32 → Prop} {x : Int32} {tc : Nat} (h : x < 0 ∨ (¬ x < 0 ∧ nI tc ≤ x)) (J : post 0) : wpX_isType post (nI tc, f_methodCount, f_linked, f_faultPlace, f_flowHeight, f_active, f_ticksLeft, f_outcome, f_latestResult, a_typeAbove, a_fieldSet, a_methodType, a_methodName, a_codeLength, a_bytes, a_isStart, a_heightAt, a_kindsAt, a_isWaiting, a_flowKinds, a_globals, a_objectType, a_fieldValue, a_isMarked, a_frameMethod, a_frameAt, a_frameHeight, a_slots) x := by
  rcases h with h | ⟨h, h2⟩
  · exact br_t h J
  · exact br_f h (br_t h2 J)
/-! ===== field ===== -/
theorem ev_yfl (g_methods g_place g_result g_linked g_bad g_high g_refs g_active g_ticks g_code : Int32) (b_above b_ownField b_mType b_mName b_mLength b_bytes b_starts : Nat → Int32) (b_seen b_done : Nat → Int64) (b_heights b_local b_sure b_objType b_objField b_marked b_global b_fMethod b_fPc b_fHigh b_fLocal b_fEntry : Nat → Int32) {post : Int32 → SY → Prop} {tc mc f : Nat} {fs mN mL by' : Nat → Int32} (P : rl_P (tc + 1) mc b_above fs b_ownField mN mL by') (hf : f < 16)
    (J : (cf (fs tc) 16 = 4 ∨ bt (fs tc) f = true → post 0 (nI (tc + 1), g_methods, g_place, g_result, g_linked, g_bad, g_high, g_refs, g_active, g_ticks, g_code, b_above, b_ownField, b_mType, b_mName, b_mLength, b_bytes, b_starts, b_seen, b_done, b_heights, b_local, b_sure, b_objType, b_objField, b_marked, b_global, b_fMethod, b_fPc, b_fHigh, b_fLocal, b_fEntry)) ∧ (cf (fs tc) 16 ≠ 4 → bt (fs tc) f = false → post 1 (nI (tc + 1), g_methods, g_place, g_result, g_linked, g_bad, g_high, g_refs, g_active, g_ticks, g_code, b_above, upd b_ownField (tc * 16 + f) 1, b_mType, b_mName, b_mLength, b_bytes, b_starts, b_seen, b_done, b_heights, b_local, b_sure, b_objType, b_objField, b_marked, b_global, b_fMethod, b_fPc, b_fHigh, b_fLocal, b_fEntry))) :
    ∀ d j, j + d = 16 → wY_field_30 post (nI f) (nI (tc + 1)) g_methods g_place g_result g_linked g_bad g_high g_refs g_active g_ticks g_code b_above b_ownField b_mType b_mName b_mLength b_bytes b_starts b_seen b_done b_heights b_local b_sure b_objType b_objField b_marked b_global b_fMethod b_fPc b_fHigh b_fLocal b_fEntry (d + 1) (nI (cf (fs tc) j)) (nI j) := by
  have h5 := P.1
  intro d
  induction d with
  | zero =>
    intro j hj
    cases (show j = 16 by omega)
    have hc := cf_le (fs tc) 16
    unfold wY_field_30
    simp (disch := omega) only [nI_clamp, gm_clL, gm_in, gm_inL, gm_ml, gm_al, gm_la, gm_sl, nI_add, pk_mul, gm_eqL, gm_leL, gm_ltL, gm_Lle, gm_Llt, gm_eq, gm_le, gm_lt, gm_m1, forall_eq, true_and, Nat.not_lt_zero, Nat.add_sub_cancel, gm_z2, gm_z3, gm_z9, gm_z16, gm_z18, gm_z32, gm_z36, gm_z64, gm_z1152, not_true_eq_false, not_false_eq_true, false_implies, true_implies, and_true, implies_true, nI_pred]
    refine ⟨fun _ => ?_, fun z => absurd (by omega) z⟩
    refine ⟨fun h4 => J.1 (Or.inl h4), fun h4 => ev_yhas (nI (tc + 1)) g_methods g_place g_result g_linked g_bad g_high g_refs g_active g_ticks g_code b_above b_ownField b_mType b_mName b_mLength b_bytes b_starts b_seen b_done b_heights b_local b_sure b_objType b_objField b_marked b_global b_fMethod b_fPc b_fHigh b_fLocal b_fEntry P hf (by omega) ?_⟩
    cases hb : bt (fs tc) f
    · exact br_t rfl (by rw [gm_nb1]; exact J.2 h4 hb)
    · exact br_f (by decide) (J.1 (Or.inr hb))
  | succ d ih =>
    intro j hj
    have h := ih (j + 1) (by omega)
    have hc := cf_le (fs tc) j
    unfold wY_field_30
    rw [nI_pred]
    refine br_f (nI_ge (b := 16) (by omega) (by decide)) (ev_yhas (nI (tc + 1)) g_methods g_place g_result g_linked g_bad g_high g_refs g_active g_ticks g_code b_above b_ownField b_mType b_mName b_mLength b_bytes b_starts b_seen b_done b_heights b_local b_sure b_objType b_objField b_marked b_global b_fMethod b_fPc b_fHigh b_fLocal b_fEntry P (by omega) (by omega) ?_)
    unfold cf at h
    cases hb : bt (fs tc) j
    · rw [hb] at h
      exact br_t rfl (nm_r (nI_1 j) h)
    · rw [hb] at h
      exact br_f (by decide) (nm_r (nI_1 _) (nm_r (nI_1 j) h))
theorem rl_Pf {tc mc f : Nat} {ab fs own mN mL by' : Nat → Int32} (P : rl_P (tc + 1) mc ab fs own mN mL by') (hf : f < 16) : rl_P (tc + 1) mc ab (upd fs tc (fs tc ||| ((1 : Int32) <<< (nI f &&& 31)))) (upd own (tc * 16 + f) 1) mN mL by' := by
  obtain ⟨a1, a2, a3, a4, a5, a6, a7⟩ := P
  refine ⟨a1, a2, a3, a4, a5, a6, fun t h g hg => ?_⟩
  have a := a7 t h g hg
  by_cases e : t = tc
  · subst e
    rw [pk_us, gm_set _ (by omega) (by omega), Bool.or_eq_true, a]
    by_cases e2 : g = f
    · subst e2
      rw [pk_us]
      exact ⟨fun _ => Or.inl (by decide), fun _ => Or.inr (by simp)⟩
    · rw [pk_un (by omega)]
      constructor
      · rintro ((z | ⟨a, ha, e2, hb⟩) | z)
        · exact Or.inl z
        · exact Or.inr ⟨a, ha, e2, by rw [pk_un (by omega)]; exact hb⟩
        · exact absurd (of_decide_eq_true z) e2
      · rintro (z | ⟨a, ha, e2, hb⟩)
        · exact Or.inl (Or.inl z)
        · rw [pk_un (by omega)] at hb
          exact Or.inl (Or.inr ⟨a, ha, e2, hb⟩)
  · rw [pk_un e, pk_un (by omega), a]
    constructor
    · rintro (z | ⟨a, ha, e2, hb⟩)
      · exact Or.inl z
      · exact Or.inr ⟨a, ha, e2, by rw [pk_un (by omega)]; exact hb⟩
    · rintro (z | ⟨a, ha, e2, hb⟩)
      · exact Or.inl z
      · rw [pk_un (by omega)] at hb
        exact Or.inr ⟨a, ha, e2, hb⟩
theorem i_vc_field {k : Nat} {u : SX} {v : SY} (I : i_Rel k u v) (hk : k + 4 ≤ 2048) (v1 : Int32) : wpX_field (fun r u' => wpY_field (fun r' v' => r' = r ∧ i_Rel (k + 4) u' v') v v1) u v1 := by
  obtain ⟨f_typeCount, f_methodCount, f_linked, f_faultPlace, f_flowHeight, f_active, f_ticksLeft, f_outcome, f_latestResult, a_typeAbove, a_fieldSet, a_methodType, a_methodName, a_codeLength, a_bytes, a_isStart, a_heightAt, a_kindsAt, a_isWaiting, a_flowKinds, a_globals, a_objectType, a_fieldValue, a_isMarked, a_frameMethod, a_frameAt, a_frameHeight, a_slots⟩ := u
  obtain ⟨g_types, g_methods, g_place, g_result, g_linked, g_bad, g_high, g_refs, g_active, g_ticks, g_code, b_above, b_ownField, b_mType, b_mName, b_mLength, b_bytes, b_starts, b_seen, b_done, b_heights, b_local, b_sure, b_objType, b_objField, b_marked, b_global, b_fMethod, b_fPc, b_fHigh, b_fLocal, b_fEntry⟩ := v
  have I' := I
  obtain ⟨tc, mc, h, rfl, rfl, rfl, rfl, rfl, hl, rfl, hfp, rfl, rfl, rfl, rfl, rfl, rfl, rfl, P, KB, H, hh, hL⟩ := I
  unfold wpX_field
  have h5 := P.1
  rcases hl with rfl | rfl
  · have h0 : h = 0 := by
      rcases Nat.eq_zero_or_pos h with z | z
      · exact z
      · exact absurd rfl (hh z)
    refine br_t rfl ?_
    rcases Nat.eq_zero_or_pos tc with rfl | hp
    · exact br_t rfl (by unfold wpY_field; exact br_t rfl (br_t rfl ⟨rfl, I'⟩))
    · obtain ⟨tc, rfl⟩ : ∃ c, tc = c + 1 := ⟨tc - 1, by omega⟩
      have n0 : ¬ nI (tc + 1) = 0 := nI_ne0 (by omega) (by omega)
      refine br_f n0 ?_
      rcases gq_rng v1 (n := 16) (by omega) with z | z | ⟨f, hf, rfl⟩
      · refine ev_isNameF (Or.inl z) (br_t rfl ?_)
        unfold wpY_field
        exact br_t rfl (br_f n0 (br_t z ⟨rfl, I'⟩))
      · refine ev_isNameF (Or.inr z) (br_t rfl ?_)
        unfold wpY_field
        exact br_t rfl (br_f n0 (br_f z.1 (br_f (gq_nle (n := 15) (by omega) z.2) ⟨rfl, I'⟩)))
      · have y0 : ∀ post : Int32 → SY → Prop, (cf (a_fieldSet tc) 16 = 4 ∨ bt (a_fieldSet tc) f = true → post 0 (nI (tc + 1), nI mc, f_faultPlace, f_latestResult, 0, g_bad, g_high, g_refs, g_active, g_ticks, g_code, a_typeAbove, b_ownField, a_methodType, a_methodName, a_codeLength, a_bytes, b_starts, b_seen, b_done, b_heights, b_local, b_sure, b_objType, b_objField, b_marked, b_global, b_fMethod, b_fPc, b_fHigh, b_fLocal, b_fEntry)) ∧ (cf (a_fieldSet tc) 16 ≠ 4 → bt (a_fieldSet tc) f = false → post 1 (nI (tc + 1), nI mc, f_faultPlace, f_latestResult, 0, g_bad, g_high, g_refs, g_active, g_ticks, g_code, a_typeAbove, upd b_ownField (tc * 16 + f) 1, a_methodType, a_methodName, a_codeLength, a_bytes, b_starts, b_seen, b_done, b_heights, b_local, b_sure, b_objType, b_objField, b_marked, b_global, b_fMethod, b_fPc, b_fHigh, b_fLocal, b_fEntry)) → wpY_field post (nI (tc + 1), nI mc, f_faultPlace, f_latestResult, 0, g_bad, g_high, g_refs, g_active, g_ticks, g_code, a_typeAbove, b_ownField, a_methodType, a_methodName, a_codeLength, a_bytes, b_starts, b_seen, b_done, b_heights, b_local, b_sure, b_objType, b_objField, b_marked, b_global, b_fMethod, b_fPc, b_fHigh, b_fLocal, b_fEntry) (nI f) := by
          intro post J
          unfold wpY_field
          exact br_t rfl (br_f n0 (br_f (nI_pos (by omega)) (br_t (nI_le (b := 15) (by omega) (by decide)) ⟨17, ev_yfl (nI mc) f_faultPlace f_latestResult 0 g_bad g_high g_refs g_active g_ticks g_code a_typeAbove b_ownField a_methodType a_methodName a_codeLength a_bytes b_starts b_seen b_done b_heights b_local b_sure b_objType b_objField b_marked b_global b_fMethod b_fPc b_fHigh b_fLocal b_fEntry P hf J 16 0 rfl⟩)))
        have hc := cf_le (a_fieldSet tc) 16
        refine ev_isName hf (br_f (by decide) (nm_r (nI_pred tc) (ev_hasField (nI (tc + 1)) (nI mc) 0 f_faultPlace f_flowHeight 0 f_ticksLeft f_outcome f_latestResult a_typeAbove a_fieldSet a_methodType a_methodName a_codeLength a_bytes a_isStart a_heightAt a_kindsAt a_isWaiting a_flowKinds a_globals a_objectType a_fieldValue a_isMarked a_frameMethod a_frameAt a_frameHeight a_slots (by omega) hf ?_)))
        cases hb : bt (a_fieldSet tc) f
        · refine br_t rfl (ev_countFields (nI (tc + 1)) (nI mc) 0 f_faultPlace f_flowHeight 0 f_ticksLeft f_outcome f_latestResult a_typeAbove a_fieldSet a_methodType a_methodName a_codeLength a_bytes a_isStart a_heightAt a_kindsAt a_isWaiting a_flowKinds a_globals a_objectType a_fieldValue a_isMarked a_frameMethod a_frameAt a_frameHeight a_slots (by omega) (pk_eq (cf (a_fieldSet tc) 16) 4 (fun e => y0 _ ⟨fun _ => ⟨rfl, I'⟩, fun z => absurd e z⟩) (fun e => ?_)))
          refine ⟨vp_in_nI (by omega) (by omega), vp_in_nI (by omega) (by omega), nm_e (y0 _ ⟨fun z => ?_, fun _ _ => ⟨rfl, tc + 1, mc, 0, rfl, rfl, rfl, rfl, rfl, Or.inl rfl, rfl, hfp, rfl, rfl, rfl, rfl, rfl, rfl, rfl, ?_, KB, rl_H0 H h0, fun z => absurd z (by omega), fun z => absurd rfl z⟩⟩)⟩
          · rcases z with z | z
            · exact absurd z e
            · rw [hb] at z; exact absurd z (by decide)
          · rw [nI_clamp (by omega)]
            exact rl_Pf P hf
        · exact br_f (by decide) (y0 _ ⟨fun _ => ⟨rfl, I'⟩, fun _ z => by rw [hb] at z; exact absurd z (by decide)⟩)
  · refine br_f (by decide) ?_
    unfold wpY_field
    exact br_f (by decide) ⟨rfl, I'⟩
/-! ===== code ===== -/
theorem rl_Pc {tc mc m l b : Nat} {ab fs own mN mL by' : Nat → Int32} (P : rl_P tc mc ab fs own mN mL by') (hb : b < 256) (hl : l < 32) (i : Nat) : rl_P tc mc ab fs own mN (upd mL m (nI (l + 1))) (upd by' i (nI b)) := by
  obtain ⟨a1, a2, a3, a4, a5, a6, a7⟩ := P
  refine ⟨a1, a2, a3, a4, fun m' => ?_, fun i' => ?_, a7⟩
  · by_cases e : m' = m
    · subst e; rw [pk_us, gp_nI (by omega)]; exact ⟨by omega, rfl⟩
    · rw [pk_un e]; exact a5 m'
  · by_cases e : i' = i
    · subst e; rw [pk_us, gp_nI (by omega)]; exact ⟨by omega, rfl⟩
    · rw [pk_un e]; exact a6 i'
theorem i_vc_code {k : Nat} {u : SX} {v : SY} (I : i_Rel k u v) (hk : k + 4 ≤ 2048) (v1 : Int32) : wpX_code (fun r u' => wpY_code (fun r' v' => r' = r ∧ i_Rel (k + 4) u' v') v v1) u v1 := by
  obtain ⟨f_typeCount, f_methodCount, f_linked, f_faultPlace, f_flowHeight, f_active, f_ticksLeft, f_outcome, f_latestResult, a_typeAbove, a_fieldSet, a_methodType, a_methodName, a_codeLength, a_bytes, a_isStart, a_heightAt, a_kindsAt, a_isWaiting, a_flowKinds, a_globals, a_objectType, a_fieldValue, a_isMarked, a_frameMethod, a_frameAt, a_frameHeight, a_slots⟩ := u
  obtain ⟨g_types, g_methods, g_place, g_result, g_linked, g_bad, g_high, g_refs, g_active, g_ticks, g_code, b_above, b_ownField, b_mType, b_mName, b_mLength, b_bytes, b_starts, b_seen, b_done, b_heights, b_local, b_sure, b_objType, b_objField, b_marked, b_global, b_fMethod, b_fPc, b_fHigh, b_fLocal, b_fEntry⟩ := v
  have I' := I
  obtain ⟨tc, mc, h, rfl, rfl, rfl, rfl, rfl, hl, rfl, hfp, rfl, rfl, rfl, rfl, rfl, rfl, rfl, P, KB, H, hh, hL⟩ := I
  unfold wpX_code
  have h5 := P.1
  have h8 := P.2.1
  rcases hl with rfl | rfl
  · have h0 : h = 0 := by
      rcases Nat.eq_zero_or_pos h with z | z
      · exact z
      · exact absurd rfl (hh z)
    refine br_t rfl ?_
    rcases Nat.eq_zero_or_pos mc with rfl | hp
    · exact br_t rfl (by unfold wpY_code; exact br_t rfl (br_t rfl ⟨rfl, I'⟩))
    · obtain ⟨mc, rfl⟩ : ∃ c, mc = c + 1 := ⟨mc - 1, by omega⟩
      have n0 : ¬ nI (mc + 1) = 0 := nI_ne0 (by omega) (by omega)
      refine br_f n0 ?_
      rcases gq_rng v1 (n := 256) (by omega) with z | z | ⟨b, hb, rfl⟩
      · refine br_t z ?_
        unfold wpY_code
        exact br_t rfl (br_f n0 (br_t z ⟨rfl, I'⟩))
      · refine br_f z.1 (br_f (Int32.not_lt.mpr z.2) ?_)
        unfold wpY_code
        exact br_t rfl (br_f n0 (br_f z.1 (br_t (gq_lt (n := 255) (by omega) z.2) ⟨rfl, I'⟩)))
      · obtain ⟨hl1, hl2⟩ := P.2.2.2.2.1 mc
        have a : ¬ nI b < 0 := nI_pos (by omega)
        have a2 : ¬ (255 : Int32) < nI b := nI_nlt (a := 255) (by omega) (by omega)
        refine br_f a (br_t (nI_lt (b := 256) hb (by decide)) (nm_r (nI_pred mc) ⟨vp_in_nI (by omega) (by omega), ?_⟩))
        rw [nI_clamp (by omega), hl2]
        generalize gm_n (a_codeLength mc) = l at hl1 hl2
        refine nm_e (pk_eq l 32 (fun e => ?_) (fun e => ?_))
        · subst e
          unfold wpY_code
          dsimp only
          rw [nI_pred, nI_clamp (by omega), hl2]
          exact br_t rfl (br_f n0 (br_f a (br_f a2 ⟨vp_in_nI (by omega) (by omega), br_t rfl ⟨rfl, I'⟩⟩)))
        · simp (disch := omega) only [nI_clamp, gm_clL, gm_in, gm_inL, gm_ml, gm_al, gm_la, gm_sl, nI_add, pk_mul, gm_eqL, gm_leL, gm_ltL, gm_Lle, gm_Llt, gm_eq, gm_le, gm_lt, gm_m1, forall_eq, true_and, Nat.not_lt_zero, Nat.add_sub_cancel, gm_z2, gm_z3, gm_z9, gm_z16, gm_z18, gm_z32, gm_z36, gm_z64, gm_z1152, not_true_eq_false, not_false_eq_true, false_implies, true_implies, and_true, implies_true]
          unfold wpY_code
          dsimp only
          rw [nI_pred, nI_clamp (by omega), hl2]
          refine br_t rfl (br_f n0 (br_f a (br_f a2 ⟨vp_in_nI (by omega) (by omega), br_f (by rw [gm_eqL (by omega) (by omega)]; exact e) ?_⟩)))
          simp (disch := omega) only [nI_clamp, gm_clL, gm_in, gm_inL, gm_ml, gm_al, gm_la, gm_sl, nI_add, pk_mul, gm_eqL, gm_leL, gm_ltL, gm_Lle, gm_Llt, gm_eq, gm_le, gm_lt, gm_m1, forall_eq, true_and, Nat.not_lt_zero, Nat.add_sub_cancel, gm_z2, gm_z3, gm_z9, gm_z16, gm_z18, gm_z32, gm_z36, gm_z64, gm_z1152, not_true_eq_false, not_false_eq_true, false_implies, true_implies, and_true, implies_true]
          exact ⟨tc, mc + 1, 0, rfl, rfl, rfl, rfl, rfl, Or.inl rfl, rfl, hfp, rfl, rfl, rfl, rfl, rfl, rfl, rfl, rl_Pc P hb (by omega) _, KB, rl_H0 H h0, fun z => absurd z (by omega), fun z => absurd rfl z⟩
  · refine br_f (by decide) ?_
    unfold wpY_code
    exact br_f (by decide) ⟨rfl, I'⟩
end
section
/-! ===== the search for a method ===== -/
def fo (mT mN : Nat → Int32) (x y : Int32) : Nat → Nat → Option Nat
  | 0, _ => none
  | d + 1, j => if mT j = x ∧ mN j = y then some j else fo mT mN x y d (j + 1)
theorem fo_s (mT mN : Nat → Int32) (x y : Int32) (d j : Nat) : fo mT mN x y (d + 1) j = if mT j = x ∧ mN j = y then some j else fo mT mN x y d (j + 1) := rfl
def foE (r : Option Nat) : Int32 := match r with
  | none => -1
  | some m => nI m
theorem fo_some {mT mN : Nat → Int32} {x y : Int32} : ∀ {d j m : Nat}, fo mT mN x y d j = some m → j ≤ m ∧ m < j + d ∧ mT m = x ∧ mN m = y := by
  intro d
  induction d with
  | zero => intro j m h; exact nomatch h
  | succ d ih =>
    intro j m h
    unfold fo at h
    split at h
    · cases h
      rename_i hc
      exact ⟨by omega, by omega, hc.1, hc.2⟩
    · obtain ⟨a, b, c⟩ := ih h
      exact ⟨by omega, by omega, c⟩
theorem ev_fo (f_typeCount f_linked f_faultPlace f_flowHeight f_active f_ticksLeft f_outcome f_latestResult : Int32) (a_typeAbove a_fieldSet a_methodType a_methodName a_codeLength a_bytes a_isStart a_heightAt a_kindsAt a_isWaiting a_flowKinds a_globals a_objectType a_fieldValue a_isMarked a_frameMethod a_frameAt a_frameHeight a_slots : Nat → Int32) {post : Int32 → Prop} {mc : Nat} (x y : Int32) (h8 : mc ≤ 8) : ∀ d j, j + d = mc → post (foE (fo a_methodType a_methodName x y d j)) → wX_findOwnMethod_2 post x y f_typeCount (nI mc) f_linked f_faultPlace f_flowHeight f_active f_ticksLeft f_outcome f_latestResult a_typeAbove a_fieldSet a_methodType a_methodName a_codeLength a_bytes a_isStart a_heightAt a_kindsAt a_isWaiting a_flowKinds a_globals a_objectType a_fieldValue a_isMarked a_frameMethod a_frameAt a_frameHeight a_slots (d + 1) (nI j) := by
  intro d
  induction d with
  | zero =>
    intro j hj J
    cases (show j = mc by omega)
    exact br_t (nI_le (by omega) (by omega)) J
  | succ d ih =>
    intro j hj J
    unfold fo at J
    unfold wX_findOwnMethod_2
    simp (disch := omega) only [nI_clamp, gm_clL, gm_in, gm_inL, gm_ml, gm_al, gm_la, gm_sl, nI_add, pk_mul, gm_eqL, gm_leL, gm_ltL, gm_Lle, gm_Llt, gm_eq, gm_le, gm_lt, gm_m1, forall_eq, true_and, Nat.not_lt_zero, Nat.add_sub_cancel, gm_z2, gm_z3, gm_z9, gm_z16, gm_z18, gm_z32, gm_z36, gm_z64, gm_z1152, not_true_eq_false, not_false_eq_true, false_implies, true_implies, and_true, implies_true]
    refine ⟨fun z => absurd z (by omega), fun _ => ?_⟩
    by_cases e1 : a_methodType j = x
    · refine br_t e1 ?_
      by_cases e2 : a_methodName j = y
      · rw [if_pos ⟨e1, e2⟩] at J
        exact br_t e2 J
      · rw [if_neg (fun z => e2 z.2)] at J
        exact br_f e2 (ih (j + 1) (by omega) J)
    · rw [if_neg (fun z => e1 z.1)] at J
      exact br_f e1 (ih (j + 1) (by omega) J)
theorem ev_findOwn (f_typeCount f_linked f_faultPlace f_flowHeight f_active f_ticksLeft f_outcome f_latestResult : Int32) (a_typeAbove a_fieldSet a_methodType a_methodName a_codeLength a_bytes a_isStart a_heightAt a_kindsAt a_isWaiting a_flowKinds a_globals a_objectType a_fieldValue a_isMarked a_frameMethod a_frameAt a_frameHeight a_slots : Nat → Int32) {post : Int32 → Prop} {mc : Nat} (x y : Int32) (h8 : mc ≤ 8) (J : post (foE (fo a_methodType a_methodName x y mc 0))) : wpX_findOwnMethod post (f_typeCount, nI mc, f_linked, f_faultPlace, f_flowHeight, f_active, f_ticksLeft, f_outcome, f_latestResult, a_typeAbove, a_fieldSet, a_methodType, a_methodName, a_codeLength, a_bytes, a_isStart, a_heightAt, a_kindsAt, a_isWaiting, a_flowKinds, a_globals, a_objectType, a_fieldValue, a_isMarked, a_frameMethod, a_frameAt, a_frameHeight, a_slots) x y := ⟨mc + 1, ev_fo f_typeCount f_linked f_faultPlace f_flowHeight f_active f_ticksLeft f_outcome f_latestResult a_typeAbove a_fieldSet a_methodType a_methodName a_codeLength a_bytes a_isStart a_heightAt a_kindsAt a_isWaiting a_flowKinds a_globals a_objectType a_fieldValue a_isMarked a_frameMethod a_frameAt a_frameHeight a_slots x y h8 mc 0 (by omega) J⟩
theorem ev_ym (g_place g_result g_linked g_bad g_high g_refs g_active g_ticks g_code : Int32) (b_above b_ownField b_mType b_mName b_mLength b_bytes b_starts : Nat → Int32) (b_seen b_done : Nat → Int64) (b_heights b_local b_sure b_objType b_objField b_marked b_global b_fMethod b_fPc b_fHigh b_fLocal b_fEntry : Nat → Int32) {post : Int32 → SY → Prop} {mc tc : Nat} (y : Int32) (h8 : mc < 8) (J0 : fo b_mType b_mName (nI tc) y mc 0 ≠ none → post 0 (nI (tc + 1), nI mc, g_place, g_result, g_linked, g_bad, g_high, g_refs, g_active, g_ticks, g_code, b_above, b_ownField, b_mType, b_mName, b_mLength, b_bytes, b_starts, b_seen, b_done, b_heights, b_local, b_sure, b_objType, b_objField, b_marked, b_global, b_fMethod, b_fPc, b_fHigh, b_fLocal, b_fEntry))
    (J1 : fo b_mType b_mName (nI tc) y mc 0 = none → post 1 (nI (tc + 1), nI (mc + 1), g_place, g_result, g_linked, g_bad, g_high, g_refs, g_active, g_ticks, g_code, b_above, b_ownField, upd b_mType mc (nI tc), upd b_mName mc y, upd b_mLength mc 0, b_bytes, b_starts, b_seen, b_done, b_heights, b_local, b_sure, b_objType, b_objField, b_marked, b_global, b_fMethod, b_fPc, b_fHigh, b_fLocal, b_fEntry)) :
    ∀ d j, j + d = mc → fo b_mType b_mName (nI tc) y mc 0 = fo b_mType b_mName (nI tc) y d j → wY_method_37 post y (nI (tc + 1)) (nI mc) g_place g_result g_linked g_bad g_high g_refs g_active g_ticks g_code b_above b_ownField b_mType b_mName b_mLength b_bytes b_starts b_seen b_done b_heights b_local b_sure b_objType b_objField b_marked b_global b_fMethod b_fPc b_fHigh b_fLocal b_fEntry (d + 1) (nI j) := by
  intro d
  induction d with
  | zero =>
    intro j hj e
    cases (show j = mc by omega)
    unfold wY_method_37
    simp (disch := omega) only [nI_clamp, gm_clL, gm_in, gm_inL, gm_ml, gm_al, gm_la, gm_sl, nI_add, pk_mul, gm_eqL, gm_leL, gm_ltL, gm_Lle, gm_Llt, gm_eq, gm_le, gm_lt, gm_m1, forall_eq, true_and, Nat.not_lt_zero, Nat.add_sub_cancel, gm_z2, gm_z3, gm_z9, gm_z16, gm_z18, gm_z32, gm_z36, gm_z64, gm_z1152, not_true_eq_false, not_false_eq_true, false_implies, true_implies, and_true, implies_true]
    exact ⟨fun _ => J1 e, fun z => absurd (Nat.le_refl _) z⟩
  | succ d ih =>
    intro j hj e
    rw [fo_s] at e
    unfold wY_method_37
    simp (disch := omega) only [nI_clamp, gm_clL, gm_in, gm_inL, gm_ml, gm_al, gm_la, gm_sl, nI_add, pk_mul, gm_eqL, gm_leL, gm_ltL, gm_Lle, gm_Llt, gm_eq, gm_le, gm_lt, gm_m1, forall_eq, true_and, Nat.not_lt_zero, Nat.add_sub_cancel, gm_z2, gm_z3, gm_z9, gm_z16, gm_z18, gm_z32, gm_z36, gm_z64, gm_z1152, not_true_eq_false, not_false_eq_true, false_implies, true_implies, and_true, implies_true]
    refine ⟨fun z => absurd z (by omega), fun _ => ?_⟩
    by_cases e1 : b_mType j = nI tc
    · refine br_t e1 ?_
      by_cases e2 : b_mName j = y
      · rw [if_pos ⟨e1, e2⟩] at e
        exact br_t e2 (J0 (by rw [e]; exact fun z => nomatch z))
      · rw [if_neg (fun z => e2 z.2)] at e
        exact br_f e2 (ih (j + 1) (by omega) e)
    · rw [if_neg (fun z => e1 z.1)] at e
      exact br_f e1 (ih (j + 1) (by omega) e)
theorem rl_Pm {tc mc n : Nat} {ab fs own mN mL by' : Nat → Int32} (P : rl_P tc mc ab fs own mN mL by') (hm : mc < 8) (hn : n < 16) (i : Nat) : rl_P tc (mc + 1) ab fs own (upd mN i (nI n)) (upd mL i 0) by' := by
  obtain ⟨a1, a2, a3, a4, a5, a6, a7⟩ := P
  refine ⟨a1, by omega, a3, fun m' => ?_, fun m' => ?_, a6, a7⟩
  · by_cases e : m' = i
    · subst e; rw [pk_us, gp_nI (by omega)]; exact ⟨by omega, rfl⟩
    · rw [pk_un e]; exact a4 m'
  · by_cases e : m' = i
    · subst e; rw [pk_us, gp_n0]; exact ⟨by omega, rfl⟩
    · rw [pk_un e]; exact a5 m'
theorem i_vc_method {k : Nat} {u : SX} {v : SY} (I : i_Rel k u v) (hk : k + 4 ≤ 2048) (v1 : Int32) : wpX_method (fun r u' => wpY_method (fun r' v' => r' = r ∧ i_Rel (k + 4) u' v') v v1) u v1 := by
  obtain ⟨f_typeCount, f_methodCount, f_linked, f_faultPlace, f_flowHeight, f_active, f_ticksLeft, f_outcome, f_latestResult, a_typeAbove, a_fieldSet, a_methodType, a_methodName, a_codeLength, a_bytes, a_isStart, a_heightAt, a_kindsAt, a_isWaiting, a_flowKinds, a_globals, a_objectType, a_fieldValue, a_isMarked, a_frameMethod, a_frameAt, a_frameHeight, a_slots⟩ := u
  obtain ⟨g_types, g_methods, g_place, g_result, g_linked, g_bad, g_high, g_refs, g_active, g_ticks, g_code, b_above, b_ownField, b_mType, b_mName, b_mLength, b_bytes, b_starts, b_seen, b_done, b_heights, b_local, b_sure, b_objType, b_objField, b_marked, b_global, b_fMethod, b_fPc, b_fHigh, b_fLocal, b_fEntry⟩ := v
  have I' := I
  obtain ⟨tc, mc, h, rfl, rfl, rfl, rfl, rfl, hl, rfl, hfp, rfl, rfl, rfl, rfl, rfl, rfl, rfl, P, KB, H, hh, hL⟩ := I
  unfold wpX_method
  have h5 := P.1
  have h8 := P.2.1
  rcases hl with rfl | rfl
  · have h0 : h = 0 := by
      rcases Nat.eq_zero_or_pos h with z | z
      · exact z
      · exact absurd rfl (hh z)
    refine br_t rfl ?_
    rcases Nat.eq_zero_or_pos tc with rfl | hp
    · exact br_t rfl (by unfold wpY_method; exact br_t rfl (br_t rfl ⟨rfl, I'⟩))
    · obtain ⟨tc, rfl⟩ : ∃ c, tc = c + 1 := ⟨tc - 1, by omega⟩
      have n0 : ¬ nI (tc + 1) = 0 := nI_ne0 (by omega) (by omega)
      refine br_f n0 ?_
      rcases gq_rng v1 (n := 16) (by omega) with z | z | ⟨n, hn, rfl⟩
      · refine ev_isNameF (Or.inl z) (br_t rfl ?_)
        unfold wpY_method
        exact br_t rfl (br_f n0 (br_t z ⟨rfl, I'⟩))
      · refine ev_isNameF (Or.inr z) (br_t rfl ?_)
        unfold wpY_method
        exact br_t rfl (br_f n0 (br_f z.1 (br_t (gq_lt (n := 15) (by omega) z.2) ⟨rfl, I'⟩)))
      · have a1 : ¬ nI n < 0 := nI_pos (by omega)
        have a2 : ¬ (15 : Int32) < nI n := nI_nlt (a := 15) (by omega) (by omega)
        refine ev_isName hn (br_f (by decide) ?_)
        by_cases e8 : mc = 8
        · subst e8
          refine br_t rfl ?_
          unfold wpY_method
          exact br_t rfl (br_f n0 (br_f a1 (br_f a2 (br_t rfl ⟨rfl, I'⟩))))
        · have n8 : ¬ nI mc = 8 := by rw [gm_eqL (by omega) (by omega)]; exact e8
          refine br_f n8 (nm_r (nI_pred tc) (ev_findOwn (nI (tc + 1)) 0 f_faultPlace f_flowHeight 0 f_ticksLeft f_outcome f_latestResult a_typeAbove a_fieldSet a_methodType a_methodName a_codeLength a_bytes a_isStart a_heightAt a_kindsAt a_isWaiting a_flowKinds a_globals a_objectType a_fieldValue a_isMarked a_frameMethod a_frameAt a_frameHeight a_slots _ _ h8 ?_))
          have y0 : ∀ post : Int32 → SY → Prop, (fo a_methodType a_methodName (nI tc) (nI n) mc 0 ≠ none → post 0 (nI (tc + 1), nI mc, f_faultPlace, f_latestResult, 0, g_bad, g_high, g_refs, g_active, g_ticks, g_code, a_typeAbove, b_ownField, a_methodType, a_methodName, a_codeLength, a_bytes, b_starts, b_seen, b_done, b_heights, b_local, b_sure, b_objType, b_objField, b_marked, b_global, b_fMethod, b_fPc, b_fHigh, b_fLocal, b_fEntry)) → (fo a_methodType a_methodName (nI tc) (nI n) mc 0 = none → post 1 (nI (tc + 1), nI (mc + 1), f_faultPlace, f_latestResult, 0, g_bad, g_high, g_refs, g_active, g_ticks, g_code, a_typeAbove, b_ownField, upd a_methodType mc (nI tc), upd a_methodName mc (nI n), upd a_codeLength mc 0, a_bytes, b_starts, b_seen, b_done, b_heights, b_local, b_sure, b_objType, b_objField, b_marked, b_global, b_fMethod, b_fPc, b_fHigh, b_fLocal, b_fEntry)) → wpY_method post (nI (tc + 1), nI mc, f_faultPlace, f_latestResult, 0, g_bad, g_high, g_refs, g_active, g_ticks, g_code, a_typeAbove, b_ownField, a_methodType, a_methodName, a_codeLength, a_bytes, b_starts, b_seen, b_done, b_heights, b_local, b_sure, b_objType, b_objField, b_marked, b_global, b_fMethod, b_fPc, b_fHigh, b_fLocal, b_fEntry) (nI n) := by
            intro post J0 J1
            unfold wpY_method
            exact br_t rfl (br_f n0 (br_f a1 (br_f a2 (br_f n8 ⟨mc + 1, ev_ym f_faultPlace f_latestResult 0 g_bad g_high g_refs g_active g_ticks g_code a_typeAbove b_ownField a_methodType a_methodName a_codeLength a_bytes b_starts b_seen b_done b_heights b_local b_sure b_objType b_objField b_marked b_global b_fMethod b_fPc b_fHigh b_fLocal b_fEntry _ (by omega) J0 J1 mc 0 (by omega) rfl⟩))))
          cases hf : fo a_methodType a_methodName (nI tc) (nI n) mc 0 with
          | none =>
            refine br_t rfl ?_
            simp (disch := omega) only [nI_clamp, gm_clL, gm_in, gm_inL, gm_ml, gm_al, gm_la, gm_sl, nI_add, pk_mul, gm_eqL, gm_leL, gm_ltL, gm_Lle, gm_Llt, gm_eq, gm_le, gm_lt, gm_m1, forall_eq, true_and, Nat.not_lt_zero, Nat.add_sub_cancel, gm_z2, gm_z3, gm_z9, gm_z16, gm_z18, gm_z32, gm_z36, gm_z64, gm_z1152, not_true_eq_false, not_false_eq_true, false_implies, true_implies, and_true, implies_true]
            refine y0 _ (fun z => absurd hf z) (fun _ => ⟨rfl, tc + 1, mc + 1, 0, rfl, rfl, rfl, rfl, rfl, Or.inl rfl, rfl, hfp, rfl, rfl, rfl, rfl, rfl, rfl, rfl, rl_Pm P (by omega) hn _, KB, rl_H0 H h0, fun z => absurd z (by omega), fun z => absurd rfl z⟩)
          | some m =>
            have hm := fo_some hf
            refine br_f (by show ¬ nI m = -1; rw [gm_m1 (by omega)]; exact id) (y0 _ (fun _ => ⟨rfl, I'⟩) (fun z => by rw [hf] at z; exact nomatch z))
  · refine br_f (by decide) ?_
    unfold wpY_method
    exact br_f (by decide) ⟨rfl, I'⟩
/-! ===== reset ===== -/
theorem i_vc_reset {k : Nat} {u : SX} {v : SY} (I : i_Rel k u v) (hk : k + 4 ≤ 2048) : wpX_reset (fun u' => wpY_reset (fun v' => i_Rel (k + 4) u' v') v) u := by
  obtain ⟨f_typeCount, f_methodCount, f_linked, f_faultPlace, f_flowHeight, f_active, f_ticksLeft, f_outcome, f_latestResult, a_typeAbove, a_fieldSet, a_methodType, a_methodName, a_codeLength, a_bytes, a_isStart, a_heightAt, a_kindsAt, a_isWaiting, a_flowKinds, a_globals, a_objectType, a_fieldValue, a_isMarked, a_frameMethod, a_frameAt, a_frameHeight, a_slots⟩ := u
  obtain ⟨g_types, g_methods, g_place, g_result, g_linked, g_bad, g_high, g_refs, g_active, g_ticks, g_code, b_above, b_ownField, b_mType, b_mName, b_mLength, b_bytes, b_starts, b_seen, b_done, b_heights, b_local, b_sure, b_objType, b_objField, b_marked, b_global, b_fMethod, b_fPc, b_fHigh, b_fLocal, b_fEntry⟩ := v
  obtain ⟨tc, mc, h, rfl, rfl, rfl, rfl, rfl, hl, rfl, hfp, rfl, rfl, rfl, rfl, rfl, rfl, rfl, P, KB, H, hh, hL⟩ := I
  refine ⟨3, ?_⟩
  refine br_f (by decide) ⟨vp_in_nI (n := 0) (by omega) (by omega), nm_e (nm_e (br_f (by decide) ⟨vp_in_nI (n := 1) (by omega) (by omega), nm_e (nm_e (br_t (by decide) ?_))⟩))⟩
  refine nm_e (nm_e ?_)
  refine ⟨0, 0, 0, rfl, rfl, rfl, rfl, rfl, Or.inl rfl, rfl, fun z => absurd rfl z, rfl, rfl, rfl, rfl, rfl, rfl, rfl, ?_, KB, ?_, fun z => absurd z (by omega), fun z => absurd rfl z⟩
  · exact ⟨by omega, by omega, fun t z => absurd z (by omega), P.2.2.2.1, P.2.2.2.2.1, P.2.2.2.2.2.1, fun t z => absurd z (by omega)⟩
  · refine ⟨by omega, fun g hg => ⟨0, by omega, ?_, ?_⟩, fun o z => absurd z (by omega)⟩
    · rcases (by omega : g = 0 ∨ g = 1) with rfl | rfl <;> rfl
    · rcases (by omega : g = 0 ∨ g = 1) with rfl | rfl
      · show _ = _; rw [yR_0]; rfl
      · show _ = _; rw [yR_0]; rfl
/-! ===== held, peek, follow, alike, clear ===== -/
theorem ev_toN0 (f_typeCount f_methodCount f_linked f_faultPlace f_flowHeight f_active f_ticksLeft f_outcome f_latestResult : Int32) (a_typeAbove a_fieldSet a_methodType a_methodName a_codeLength a_bytes a_isStart a_heightAt a_kindsAt a_isWaiting a_flowKinds a_globals a_objectType a_fieldValue a_isMarked a_frameMethod a_frameAt a_frameHeight a_slots : Nat → Int32) {post : Int32 → Prop} (J : post (-1)) : wpX_typeOrNone post (f_typeCount, f_methodCount, f_linked, f_faultPlace, f_flowHeight, f_active, f_ticksLeft, f_outcome, f_latestResult, a_typeAbove, a_fieldSet, a_methodType, a_methodName, a_codeLength, a_bytes, a_isStart, a_heightAt, a_kindsAt, a_isWaiting, a_flowKinds, a_globals, a_objectType, a_fieldValue, a_isMarked, a_frameMethod, a_frameAt, a_frameHeight, a_slots) (nI 0) := br_t rfl J
theorem ev_toN (f_typeCount f_methodCount f_linked f_faultPlace f_flowHeight f_active f_ticksLeft f_outcome f_latestResult : Int32) (a_typeAbove a_fieldSet a_methodType a_methodName a_codeLength a_bytes a_isStart a_heightAt a_kindsAt a_isWaiting a_flowKinds a_globals a_objectType a_fieldValue a_isMarked a_frameMethod a_frameAt a_frameHeight a_slots : Nat → Int32) {post : Int32 → Prop} {o : Nat} (ho : o < 10) (J : post (a_objectType (o + 1))) : wpX_typeOrNone post (f_typeCount, f_methodCount, f_linked, f_faultPlace, f_flowHeight, f_active, f_ticksLeft, f_outcome, f_latestResult, a_typeAbove, a_fieldSet, a_methodType, a_methodName, a_codeLength, a_bytes, a_isStart, a_heightAt, a_kindsAt, a_isWaiting, a_flowKinds, a_globals, a_objectType, a_fieldValue, a_isMarked, a_frameMethod, a_frameAt, a_frameHeight, a_slots) (nI (o + 1)) := by
  unfold wpX_typeOrNone
  refine br_f (nI_ne0 (by omega) (by omega)) ⟨vp_in_nI (by omega) (by omega), ?_⟩
  rw [nI_clamp (by omega)]
  exact J
theorem ev_hold0 (g_types g_methods g_place g_result g_linked g_bad g_high g_refs g_active g_ticks g_code : Int32) (b_above b_ownField b_mType b_mName b_mLength b_bytes b_starts : Nat → Int32) (b_seen b_done : Nat → Int64) (b_heights b_local b_sure b_objType b_objField b_marked b_global b_fMethod b_fPc b_fHigh b_fLocal b_fEntry : Nat → Int32) {post : Int32 → Prop} {x : Int32} (h : x < 0 ∨ (¬ x < 0 ∧ nI 2 ≤ x)) (J : post 0) : wpY_holds post (g_types, g_methods, g_place, g_result, g_linked, g_bad, g_high, g_refs, g_active, g_ticks, g_code, b_above, b_ownField, b_mType, b_mName, b_mLength, b_bytes, b_starts, b_seen, b_done, b_heights, b_local, b_sure, b_objType, b_objField, b_marked, b_global, b_fMethod, b_fPc, b_fHigh, b_fLocal, b_fEntry) x := by
  rcases h with h | ⟨h, h2⟩
  · exact br_t h J
  · exact br_f h (br_t (gq_lt (n := 1) (by omega) h2) J)
theorem ev_holdN (g_types g_methods g_place g_result g_linked g_bad g_high g_refs g_active g_ticks g_code : Int32) (b_above b_ownField b_mType b_mName b_mLength b_bytes b_starts : Nat → Int32) (b_seen b_done : Nat → Int64) (b_heights b_local b_sure b_objType b_objField b_marked b_global b_fMethod b_fPc b_fHigh b_fLocal b_fEntry : Nat → Int32) {post : Int32 → Prop} {g : Nat} (hg : g < 2) (e : b_global g = yR 0) (J : post 0) : wpY_holds post (g_types, g_methods, g_place, g_result, g_linked, g_bad, g_high, g_refs, g_active, g_ticks, g_code, b_above, b_ownField, b_mType, b_mName, b_mLength, b_bytes, b_starts, b_seen, b_done, b_heights, b_local, b_sure, b_objType, b_objField, b_marked, b_global, b_fMethod, b_fPc, b_fHigh, b_fLocal, b_fEntry) (nI g) := by
  refine br_f (nI_pos (by omega)) (br_f (nI_nlt (a := 1) (by omega) (by omega)) ⟨vp_in_nI hg (by omega), ?_⟩)
  rw [nI_clamp (by omega), e]
  exact br_t (by decide) J
theorem ev_hold1 (g_types g_methods g_place g_result g_linked g_bad g_high g_refs g_active g_ticks g_code : Int32) (b_above b_ownField b_mType b_mName b_mLength b_bytes b_starts : Nat → Int32) (b_seen b_done : Nat → Int64) (b_heights b_local b_sure b_objType b_objField b_marked b_global b_fMethod b_fPc b_fHigh b_fLocal b_fEntry : Nat → Int32) {post : Int32 → Prop} {g o : Nat} (hg : g < 2) (ho : o < 10) (e : b_global g = nI o) (J : post 1) : wpY_holds post (g_types, g_methods, g_place, g_result, g_linked, g_bad, g_high, g_refs, g_active, g_ticks, g_code, b_above, b_ownField, b_mType, b_mName, b_mLength, b_bytes, b_starts, b_seen, b_done, b_heights, b_local, b_sure, b_objType, b_objField, b_marked, b_global, b_fMethod, b_fPc, b_fHigh, b_fLocal, b_fEntry) (nI g) := by
  refine br_f (nI_pos (by omega)) (br_f (nI_nlt (a := 1) (by omega) (by omega)) ⟨vp_in_nI hg (by omega), ?_⟩)
  rw [nI_clamp (by omega), e]
  exact br_f (nI_pos (by omega)) J
theorem i_vc_held {k : Nat} {u : SX} {v : SY} (I : i_Rel k u v) (hk : k + 4 ≤ 2048) (v1 : Int32) : wpX_held (fun r => wpY_held (fun r' => r' = r ∧ i_Rel (k + 4) u v) v v1) u v1 := by
  obtain ⟨f_typeCount, f_methodCount, f_linked, f_faultPlace, f_flowHeight, f_active, f_ticksLeft, f_outcome, f_latestResult, a_typeAbove, a_fieldSet, a_methodType, a_methodName, a_codeLength, a_bytes, a_isStart, a_heightAt, a_kindsAt, a_isWaiting, a_flowKinds, a_globals, a_objectType, a_fieldValue, a_isMarked, a_frameMethod, a_frameAt, a_frameHeight, a_slots⟩ := u
  obtain ⟨g_types, g_methods, g_place, g_result, g_linked, g_bad, g_high, g_refs, g_active, g_ticks, g_code, b_above, b_ownField, b_mType, b_mName, b_mLength, b_bytes, b_starts, b_seen, b_done, b_heights, b_local, b_sure, b_objType, b_objField, b_marked, b_global, b_fMethod, b_fPc, b_fHigh, b_fLocal, b_fEntry⟩ := v
  have I' := I
  obtain ⟨tc, mc, h, rfl, rfl, rfl, rfl, rfl, hl, rfl, hfp, rfl, rfl, rfl, rfl, rfl, rfl, rfl, P, KB, H, hh, hL⟩ := I
  obtain ⟨h10, hg, ho⟩ := H
  unfold wpX_held
  have out : (v1 < 0 ∨ (¬ v1 < 0 ∧ nI 2 ≤ v1)) → wpX_held (fun r => wpY_held (fun r' => r' = r ∧ i_Rel (k + 4) (nI tc, nI mc, f_linked, f_faultPlace, f_flowHeight, 0, f_ticksLeft, f_outcome, f_latestResult, a_typeAbove, a_fieldSet, a_methodType, a_methodName, a_codeLength, a_bytes, a_isStart, a_heightAt, a_kindsAt, a_isWaiting, a_flowKinds, a_globals, a_objectType, a_fieldValue, a_isMarked, a_frameMethod, a_frameAt, a_frameHeight, a_slots) (nI tc, nI mc, f_faultPlace, f_latestResult, f_linked, g_bad, g_high, g_refs, g_active, g_ticks, g_code, a_typeAbove, b_ownField, a_methodType, a_methodName, a_codeLength, a_bytes, b_starts, b_seen, b_done, b_heights, b_local, b_sure, b_objType, b_objField, b_marked, b_global, b_fMethod, b_fPc, b_fHigh, b_fLocal, b_fEntry)) (nI tc, nI mc, f_faultPlace, f_latestResult, f_linked, g_bad, g_high, g_refs, g_active, g_ticks, g_code, a_typeAbove, b_ownField, a_methodType, a_methodName, a_codeLength, a_bytes, b_starts, b_seen, b_done, b_heights, b_local, b_sure, b_objType, b_objField, b_marked, b_global, b_fMethod, b_fPc, b_fHigh, b_fLocal, b_fEntry) v1) (nI tc, nI mc, f_linked, f_faultPlace, f_flowHeight, 0, f_ticksLeft, f_outcome, f_latestResult, a_typeAbove, a_fieldSet, a_methodType, a_methodName, a_codeLength, a_bytes, a_isStart, a_heightAt, a_kindsAt, a_isWaiting, a_flowKinds, a_globals, a_objectType, a_fieldValue, a_isMarked, a_frameMethod, a_frameAt, a_frameHeight, a_slots) v1 := by
    intro z
    unfold wpX_held
    refine ev_isGlobalF z (br_t rfl ?_)
    unfold wpY_held
    exact ev_hold0 (nI tc) (nI mc) f_faultPlace f_latestResult f_linked g_bad g_high g_refs g_active g_ticks g_code a_typeAbove b_ownField a_methodType a_methodName a_codeLength a_bytes b_starts b_seen b_done b_heights b_local b_sure b_objType b_objField b_marked b_global b_fMethod b_fPc b_fHigh b_fLocal b_fEntry z (br_t rfl ⟨rfl, I'⟩)
  rcases gq_rng v1 (n := 2) (by omega) with z | z | ⟨g, hg2, rfl⟩
  · exact out (Or.inl z)
  · exact out (Or.inr z)
  · obtain ⟨r, hr, e1, e2⟩ := hg g hg2
    refine ev_isGlobal hg2 (br_f (by decide) ⟨vp_in_nI hg2 (by omega), ?_⟩)
    rw [nI_clamp (by omega), e1]
    cases r with
    | zero =>
      refine ev_toN0 (nI tc) (nI mc) f_linked f_faultPlace f_flowHeight 0 f_ticksLeft f_outcome f_latestResult a_typeAbove a_fieldSet a_methodType a_methodName a_codeLength a_bytes a_isStart a_heightAt a_kindsAt a_isWaiting a_flowKinds a_globals a_objectType a_fieldValue a_isMarked a_frameMethod a_frameAt a_frameHeight a_slots ?_
      unfold wpY_held
      exact ev_holdN (nI tc) (nI mc) f_faultPlace f_latestResult f_linked g_bad g_high g_refs g_active g_ticks g_code a_typeAbove b_ownField a_methodType a_methodName a_codeLength a_bytes b_starts b_seen b_done b_heights b_local b_sure b_objType b_objField b_marked b_global b_fMethod b_fPc b_fHigh b_fLocal b_fEntry hg2 e2 (br_t rfl ⟨rfl, I'⟩)
    | succ o =>
      rw [yR_s] at e2
      obtain ⟨t, ht, t1, t2, -⟩ := ho o (by omega)
      refine ev_toN (nI tc) (nI mc) f_linked f_faultPlace f_flowHeight 0 f_ticksLeft f_outcome f_latestResult a_typeAbove a_fieldSet a_methodType a_methodName a_codeLength a_bytes a_isStart a_heightAt a_kindsAt a_isWaiting a_flowKinds a_globals a_objectType a_fieldValue a_isMarked a_frameMethod a_frameAt a_frameHeight a_slots (by omega) ?_
      unfold wpY_held
      refine ev_hold1 (nI tc) (nI mc) f_faultPlace f_latestResult f_linked g_bad g_high g_refs g_active g_ticks g_code a_typeAbove b_ownField a_methodType a_methodName a_codeLength a_bytes b_starts b_seen b_done b_heights b_local b_sure b_objType b_objField b_marked b_global b_fMethod b_fPc b_fHigh b_fLocal b_fEntry hg2 (by omega) e2 (br_f (by decide) ⟨vp_in_nI hg2 (by omega), ?_⟩)
      rw [nI_clamp (by omega), e2, nI_clamp (by omega), t1, t2]
      exact ⟨vp_in_nI (by omega) (by omega), rfl, I'⟩
theorem i_vc_alike {k : Nat} {u : SX} {v : SY} (I : i_Rel k u v) (hk : k + 4 ≤ 2048) : wpX_alike (fun r => wpY_alike (fun r' => r' = r ∧ i_Rel (k + 4) u v) v) u := by
  obtain ⟨f_typeCount, f_methodCount, f_linked, f_faultPlace, f_flowHeight, f_active, f_ticksLeft, f_outcome, f_latestResult, a_typeAbove, a_fieldSet, a_methodType, a_methodName, a_codeLength, a_bytes, a_isStart, a_heightAt, a_kindsAt, a_isWaiting, a_flowKinds, a_globals, a_objectType, a_fieldValue, a_isMarked, a_frameMethod, a_frameAt, a_frameHeight, a_slots⟩ := u
  obtain ⟨g_types, g_methods, g_place, g_result, g_linked, g_bad, g_high, g_refs, g_active, g_ticks, g_code, b_above, b_ownField, b_mType, b_mName, b_mLength, b_bytes, b_starts, b_seen, b_done, b_heights, b_local, b_sure, b_objType, b_objField, b_marked, b_global, b_fMethod, b_fPc, b_fHigh, b_fLocal, b_fEntry⟩ := v
  have I' := I
  obtain ⟨tc, mc, h, rfl, rfl, rfl, rfl, rfl, hl, rfl, hfp, rfl, rfl, rfl, rfl, rfl, rfl, rfl, P, KB, H, hh, hL⟩ := I
  obtain ⟨h10, hg, ho⟩ := H
  obtain ⟨r0, hr0, a0, b0⟩ := hg 0 (by omega)
  obtain ⟨r1, hr1, a1, b1⟩ := hg 1 (by omega)
  unfold wpX_alike
  dsimp only
  rw [a0, a1]
  have hY : ∀ post : Int32 → Prop, (r0 = r1 → r0 ≠ 0 → post 1) → (r0 = r1 → r0 = 0 → post 0) → (r0 ≠ r1 → post 0) → wpY_alike post (nI tc, nI mc, f_faultPlace, f_latestResult, f_linked, g_bad, g_high, g_refs, g_active, g_ticks, g_code, a_typeAbove, b_ownField, a_methodType, a_methodName, a_codeLength, a_bytes, b_starts, b_seen, b_done, b_heights, b_local, b_sure, b_objType, b_objField, b_marked, b_global, b_fMethod, b_fPc, b_fHigh, b_fLocal, b_fEntry) := by
    intro post c1 c2 c3
    unfold wpY_alike
    dsimp only
    rw [b0, b1]
    cases r0 with
    | zero =>
      cases r1 with
      | zero => exact br_t rfl (br_t (by decide) (c2 rfl rfl))
      | succ o1 =>
        rw [yR_0, yR_s]
        have n : ¬ (-1 : Int32) = nI o1 := fun e => absurd e.symm (of_eq_false (gm_m1 (by omega)))
        exact br_f n (c3 (by omega))
    | succ o0 =>
      cases r1 with
      | zero =>
        rw [yR_0, yR_s]
        exact br_f (of_eq_false (gm_m1 (by omega))) (c3 (by omega))
      | succ o1 =>
        rw [yR_s, yR_s]
        exact pk_eq o0 o1 (fun e => br_f (nI_pos (by omega)) (c1 (by omega) (by omega))) (fun e => c3 (by omega))
  refine pk_eq r0 0 (fun e => ?_) (fun e => pk_eq r0 r1 (fun e2 => ?_) (fun e2 => ?_))
  · exact hY _ (fun _ z => absurd e z) (fun _ _ => ⟨rfl, I'⟩) (fun _ => ⟨rfl, I'⟩)
  · exact hY _ (fun _ _ => ⟨rfl, I'⟩) (fun _ z => absurd z e) (fun z => absurd e2 z)
  · exact hY _ (fun z _ => absurd z e2) (fun z _ => absurd z e2) (fun _ => ⟨rfl, I'⟩)
theorem i_vc_clear {k : Nat} {u : SX} {v : SY} (I : i_Rel k u v) (hk : k + 4 ≤ 2048) (v1 : Int32) : wpX_clear (fun r u' => wpY_clear (fun r' v' => r' = r ∧ i_Rel (k + 4) u' v') v v1) u v1 := by
  obtain ⟨f_typeCount, f_methodCount, f_linked, f_faultPlace, f_flowHeight, f_active, f_ticksLeft, f_outcome, f_latestResult, a_typeAbove, a_fieldSet, a_methodType, a_methodName, a_codeLength, a_bytes, a_isStart, a_heightAt, a_kindsAt, a_isWaiting, a_flowKinds, a_globals, a_objectType, a_fieldValue, a_isMarked, a_frameMethod, a_frameAt, a_frameHeight, a_slots⟩ := u
  obtain ⟨g_types, g_methods, g_place, g_result, g_linked, g_bad, g_high, g_refs, g_active, g_ticks, g_code, b_above, b_ownField, b_mType, b_mName, b_mLength, b_bytes, b_starts, b_seen, b_done, b_heights, b_local, b_sure, b_objType, b_objField, b_marked, b_global, b_fMethod, b_fPc, b_fHigh, b_fLocal, b_fEntry⟩ := v
  have I' := I
  obtain ⟨tc, mc, h, rfl, rfl, rfl, rfl, rfl, hl, rfl, hfp, rfl, rfl, rfl, rfl, rfl, rfl, rfl, P, KB, H, hh, hL⟩ := I
  obtain ⟨h10, hg, ho⟩ := H
  unfold wpX_clear
  rcases gq_rng v1 (n := 2) (by omega) with z | z | ⟨g, hg2, rfl⟩
  · refine ev_isGlobalF (Or.inl z) (br_t rfl ?_)
    unfold wpY_clear
    exact br_t z ⟨rfl, I'⟩
  · refine ev_isGlobalF (Or.inr z) (br_t rfl ?_)
    unfold wpY_clear
    exact br_f z.1 (br_f (gq_nle (n := 1) (by omega) z.2) ⟨rfl, I'⟩)
  · refine ev_isGlobal hg2 (br_f (by decide) ⟨vp_in_nI hg2 (by omega), nm_e ?_⟩)
    rw [nI_clamp (by omega)]
    unfold wpY_clear
    refine br_f (nI_pos (by omega)) (br_t (nI_le (b := 1) (by omega) (by decide)) ⟨vp_in_nI hg2 (by omega), nm_e ?_⟩)
    rw [nI_clamp (by omega)]
    refine ⟨rfl, tc, mc, h, rfl, rfl, rfl, rfl, rfl, hl, rfl, hfp, rfl, rfl, rfl, rfl, rfl, rfl, rfl, P, KB, ⟨h10, fun g' hg' => ?_, ho⟩, hh, hL⟩
    by_cases e : g' = g
    · subst e
      exact ⟨0, by omega, pk_us, by rw [pk_us, yR_0]⟩
    · rw [pk_un e, pk_un e]; exact hg g' hg'
theorem ev_ghf0 (f_typeCount f_methodCount f_linked f_faultPlace f_flowHeight f_active f_ticksLeft f_outcome f_latestResult : Int32) (a_typeAbove a_fieldSet a_methodType a_methodName a_codeLength a_bytes a_isStart a_heightAt a_kindsAt a_isWaiting a_flowKinds a_globals a_objectType a_fieldValue a_isMarked a_frameMethod a_frameAt a_frameHeight a_slots : Nat → Int32) {post : Int32 → Prop} {x y : Int32} (h : (x < 0 ∨ (¬ x < 0 ∧ nI 2 ≤ x)) ∨ ∃ g, g < 2 ∧ x = nI g ∧ ((y < 0 ∨ (¬ y < 0 ∧ nI 16 ≤ y)) ∨ ∃ n, n < 16 ∧ y = nI n ∧ a_globals g = 0)) (J : post 0) : wpX_globalHasField post (f_typeCount, f_methodCount, f_linked, f_faultPlace, f_flowHeight, f_active, f_ticksLeft, f_outcome, f_latestResult, a_typeAbove, a_fieldSet, a_methodType, a_methodName, a_codeLength, a_bytes, a_isStart, a_heightAt, a_kindsAt, a_isWaiting, a_flowKinds, a_globals, a_objectType, a_fieldValue, a_isMarked, a_frameMethod, a_frameAt, a_frameHeight, a_slots) x y := by
  unfold wpX_globalHasField
  rcases h with h | ⟨g, hg, rfl, h | ⟨n, hn, rfl, h⟩⟩
  · exact ev_isGlobalF h (br_t rfl J)
  · exact ev_isGlobal hg (br_f (by decide) (ev_isNameF h (br_t rfl J)))
  · refine ev_isGlobal hg (br_f (by decide) (ev_isName hn (br_f (by decide) ⟨vp_in_nI hg (by omega), ?_⟩)))
    rw [nI_clamp (by omega), h]
    exact br_t rfl J
theorem ev_ghf (f_typeCount f_methodCount f_linked f_faultPlace f_flowHeight f_active f_ticksLeft f_outcome f_latestResult : Int32) (a_typeAbove a_fieldSet a_methodType a_methodName a_codeLength a_bytes a_isStart a_heightAt a_kindsAt a_isWaiting a_flowKinds a_globals a_objectType a_fieldValue a_isMarked a_frameMethod a_frameAt a_frameHeight a_slots : Nat → Int32) {post : Int32 → Prop} {g n o t : Nat} (hg : g < 2) (hn : n < 16) (ho : o < 10) (ht : t < 5) (e : a_globals g = nI (o + 1)) (et : a_objectType (o + 1) = nI t) (J : post (if bt (a_fieldSet t) n = true then 1 else 0)) : wpX_globalHasField post (f_typeCount, f_methodCount, f_linked, f_faultPlace, f_flowHeight, f_active, f_ticksLeft, f_outcome, f_latestResult, a_typeAbove, a_fieldSet, a_methodType, a_methodName, a_codeLength, a_bytes, a_isStart, a_heightAt, a_kindsAt, a_isWaiting, a_flowKinds, a_globals, a_objectType, a_fieldValue, a_isMarked, a_frameMethod, a_frameAt, a_frameHeight, a_slots) (nI g) (nI n) := by
  unfold wpX_globalHasField
  refine ev_isGlobal hg (br_f (by decide) (ev_isName hn (br_f (by decide) ⟨vp_in_nI hg (by omega), ?_⟩)))
  rw [nI_clamp (by omega), e]
  refine br_f (nI_ne0 (by omega) (by omega)) ⟨vp_in_nI hg (by omega), vp_in_nI (by omega) (by omega), ?_⟩
  rw [nI_clamp (by omega), et]
  refine ev_hasField f_typeCount f_methodCount f_linked f_faultPlace f_flowHeight f_active f_ticksLeft f_outcome f_latestResult a_typeAbove a_fieldSet a_methodType a_methodName a_codeLength a_bytes a_isStart a_heightAt a_kindsAt a_isWaiting a_flowKinds a_globals a_objectType a_fieldValue a_isMarked a_frameMethod a_frameAt a_frameHeight a_slots ht hn ?_
  cases hb : bt (a_fieldSet t) n
  · rw [hb] at J; exact ⟨rfl, J⟩
  · rw [hb] at J; exact ⟨rfl, J⟩
theorem ev_vk {post : Int32 → Prop} {n : Nat} (hn : n < 256) (J : post (nI (is_vk n))) : wpX_valueKind post (nI n) := by
  unfold is_vk at J
  refine pk_lt n 8 (fun h => ?_) (fun h => ?_)
  · rw [if_pos h] at J; exact J
  · rw [if_neg (by omega)] at J; exact J
theorem i_vc_peek {k : Nat} {u : SX} {v : SY} (I : i_Rel k u v) (hk : k + 4 ≤ 2048) (v1 : Int32) (v2 : Int32) : wpX_peek (fun r => wpY_peek (fun r' => r' = r ∧ i_Rel (k + 4) u v) v v1 v2) u v1 v2 := by
  obtain ⟨f_typeCount, f_methodCount, f_linked, f_faultPlace, f_flowHeight, f_active, f_ticksLeft, f_outcome, f_latestResult, a_typeAbove, a_fieldSet, a_methodType, a_methodName, a_codeLength, a_bytes, a_isStart, a_heightAt, a_kindsAt, a_isWaiting, a_flowKinds, a_globals, a_objectType, a_fieldValue, a_isMarked, a_frameMethod, a_frameAt, a_frameHeight, a_slots⟩ := u
  obtain ⟨g_types, g_methods, g_place, g_result, g_linked, g_bad, g_high, g_refs, g_active, g_ticks, g_code, b_above, b_ownField, b_mType, b_mName, b_mLength, b_bytes, b_starts, b_seen, b_done, b_heights, b_local, b_sure, b_objType, b_objField, b_marked, b_global, b_fMethod, b_fPc, b_fHigh, b_fLocal, b_fEntry⟩ := v
  have I' := I
  obtain ⟨tc, mc, h, rfl, rfl, rfl, rfl, rfl, hl, rfl, hfp, rfl, rfl, rfl, rfl, rfl, rfl, rfl, P, KB, H, hh, hL⟩ := I
  obtain ⟨h10, hg, ho⟩ := H
  have h5 := P.1
  unfold wpX_peek
  rcases gq_rng v1 (n := 2) (by omega) with z | z | ⟨g, hg2, rfl⟩
  · refine ev_ghf0 (nI tc) (nI mc) f_linked f_faultPlace f_flowHeight 0 f_ticksLeft f_outcome f_latestResult a_typeAbove a_fieldSet a_methodType a_methodName a_codeLength a_bytes a_isStart a_heightAt a_kindsAt a_isWaiting a_flowKinds a_globals a_objectType a_fieldValue a_isMarked a_frameMethod a_frameAt a_frameHeight a_slots (Or.inl (Or.inl z)) (br_t rfl ?_)
    unfold wpY_peek
    exact ev_hold0 (nI tc) (nI mc) f_faultPlace f_latestResult f_linked g_bad g_high g_refs g_active g_ticks g_code a_typeAbove b_ownField a_methodType a_methodName a_codeLength a_bytes b_starts b_seen b_done b_heights b_local b_sure b_objType b_objField b_marked b_global b_fMethod b_fPc b_fHigh b_fLocal b_fEntry (Or.inl z) (br_t rfl ⟨rfl, I'⟩)
  · refine ev_ghf0 (nI tc) (nI mc) f_linked f_faultPlace f_flowHeight 0 f_ticksLeft f_outcome f_latestResult a_typeAbove a_fieldSet a_methodType a_methodName a_codeLength a_bytes a_isStart a_heightAt a_kindsAt a_isWaiting a_flowKinds a_globals a_objectType a_fieldValue a_isMarked a_frameMethod a_frameAt a_frameHeight a_slots (Or.inl (Or.inr z)) (br_t rfl ?_)
    unfold wpY_peek
    exact ev_hold0 (nI tc) (nI mc) f_faultPlace f_latestResult f_linked g_bad g_high g_refs g_active g_ticks g_code a_typeAbove b_ownField a_methodType a_methodName a_codeLength a_bytes b_starts b_seen b_done b_heights b_local b_sure b_objType b_objField b_marked b_global b_fMethod b_fPc b_fHigh b_fLocal b_fEntry (Or.inr z) (br_t rfl ⟨rfl, I'⟩)
  · obtain ⟨r, hr, e1, e2⟩ := hg g hg2
    have yn : r = 0 → ∀ post : Int32 → Prop, post (-2147483648) → wpY_peek post (nI tc, nI mc, f_faultPlace, f_latestResult, f_linked, g_bad, g_high, g_refs, g_active, g_ticks, g_code, a_typeAbove, b_ownField, a_methodType, a_methodName, a_codeLength, a_bytes, b_starts, b_seen, b_done, b_heights, b_local, b_sure, b_objType, b_objField, b_marked, b_global, b_fMethod, b_fPc, b_fHigh, b_fLocal, b_fEntry) (nI g) v2 := by
      intro h0 post J
      subst h0
      unfold wpY_peek
      exact ev_holdN (nI tc) (nI mc) f_faultPlace f_latestResult f_linked g_bad g_high g_refs g_active g_ticks g_code a_typeAbove b_ownField a_methodType a_methodName a_codeLength a_bytes b_starts b_seen b_done b_heights b_local b_sure b_objType b_objField b_marked b_global b_fMethod b_fPc b_fHigh b_fLocal b_fEntry hg2 e2 (br_t rfl J)
    have yo : ∀ o, r = o + 1 → (v2 < 0 ∨ (¬ v2 < 0 ∧ nI 16 ≤ v2)) → ∀ post : Int32 → Prop, post (-2147483648) → wpY_peek post (nI tc, nI mc, f_faultPlace, f_latestResult, f_linked, g_bad, g_high, g_refs, g_active, g_ticks, g_code, a_typeAbove, b_ownField, a_methodType, a_methodName, a_codeLength, a_bytes, b_starts, b_seen, b_done, b_heights, b_local, b_sure, b_objType, b_objField, b_marked, b_global, b_fMethod, b_fPc, b_fHigh, b_fLocal, b_fEntry) (nI g) v2 := by
      intro o h0 z post J
      subst h0
      rw [yR_s] at e2
      unfold wpY_peek
      refine ev_hold1 (nI tc) (nI mc) f_faultPlace f_latestResult f_linked g_bad g_high g_refs g_active g_ticks g_code a_typeAbove b_ownField a_methodType a_methodName a_codeLength a_bytes b_starts b_seen b_done b_heights b_local b_sure b_objType b_objField b_marked b_global b_fMethod b_fPc b_fHigh b_fLocal b_fEntry hg2 (by omega) e2 (br_f (by decide) ?_)
      rcases z with z | ⟨z1, z2⟩
      · exact br_t z J
      · exact br_f z1 (br_t (gq_lt (n := 15) (by omega) z2) J)
    rcases gq_rng v2 (n := 16) (by omega) with z | z | ⟨n, hn, rfl⟩
    · refine ev_ghf0 (nI tc) (nI mc) f_linked f_faultPlace f_flowHeight 0 f_ticksLeft f_outcome f_latestResult a_typeAbove a_fieldSet a_methodType a_methodName a_codeLength a_bytes a_isStart a_heightAt a_kindsAt a_isWaiting a_flowKinds a_globals a_objectType a_fieldValue a_isMarked a_frameMethod a_frameAt a_frameHeight a_slots (Or.inr ⟨g, hg2, rfl, Or.inl (Or.inl z)⟩) (br_t rfl ?_)
      cases r with
      | zero => exact yn rfl _ ⟨rfl, I'⟩
      | succ o => exact yo o rfl (Or.inl z) _ ⟨rfl, I'⟩
    · refine ev_ghf0 (nI tc) (nI mc) f_linked f_faultPlace f_flowHeight 0 f_ticksLeft f_outcome f_latestResult a_typeAbove a_fieldSet a_methodType a_methodName a_codeLength a_bytes a_isStart a_heightAt a_kindsAt a_isWaiting a_flowKinds a_globals a_objectType a_fieldValue a_isMarked a_frameMethod a_frameAt a_frameHeight a_slots (Or.inr ⟨g, hg2, rfl, Or.inl (Or.inr z)⟩) (br_t rfl ?_)
      cases r with
      | zero => exact yn rfl _ ⟨rfl, I'⟩
      | succ o => exact yo o rfl (Or.inr z) _ ⟨rfl, I'⟩
    · cases r with
      | zero => exact ev_ghf0 (nI tc) (nI mc) f_linked f_faultPlace f_flowHeight 0 f_ticksLeft f_outcome f_latestResult a_typeAbove a_fieldSet a_methodType a_methodName a_codeLength a_bytes a_isStart a_heightAt a_kindsAt a_isWaiting a_flowKinds a_globals a_objectType a_fieldValue a_isMarked a_frameMethod a_frameAt a_frameHeight a_slots (Or.inr ⟨g, hg2, rfl, Or.inr ⟨n, hn, rfl, e1⟩⟩) (br_t rfl (yn rfl _ ⟨rfl, I'⟩))
      | succ o =>
        rw [yR_s] at e2
        obtain ⟨t, ht, t1, t2, f1, f2⟩ := ho o (by omega)
        refine ev_ghf (nI tc) (nI mc) f_linked f_faultPlace f_flowHeight 0 f_ticksLeft f_outcome f_latestResult a_typeAbove a_fieldSet a_methodType a_methodName a_codeLength a_bytes a_isStart a_heightAt a_kindsAt a_isWaiting a_flowKinds a_globals a_objectType a_fieldValue a_isMarked a_frameMethod a_frameAt a_frameHeight a_slots hg2 hn (by omega) (by omega) e1 t1 ?_
        have yy : ∀ post : Int32 → Prop, (bt (a_fieldSet t) n = false → post (-2147483648)) → (bt (a_fieldSet t) n = true → 8 ≤ n → b_objField (o * 16 + n) = -1 → post (-1)) → (bt (a_fieldSet t) n = true → 8 ≤ n → ∀ o', o' < 10 → b_objField (o * 16 + n) = nI o' → post (b_objType o')) → (bt (a_fieldSet t) n = true → n < 8 → post (b_objField (o * 16 + n))) → wpY_peek post (nI tc, nI mc, f_faultPlace, f_latestResult, f_linked, g_bad, g_high, g_refs, g_active, g_ticks, g_code, a_typeAbove, b_ownField, a_methodType, a_methodName, a_codeLength, a_bytes, b_starts, b_seen, b_done, b_heights, b_local, b_sure, b_objType, b_objField, b_marked, b_global, b_fMethod, b_fPc, b_fHigh, b_fLocal, b_fEntry) (nI g) (nI n) := by
          intro post J0 J1 J2 J3
          unfold wpY_peek
          refine ev_hold1 (nI tc) (nI mc) f_faultPlace f_latestResult f_linked g_bad g_high g_refs g_active g_ticks g_code a_typeAbove b_ownField a_methodType a_methodName a_codeLength a_bytes b_starts b_seen b_done b_heights b_local b_sure b_objType b_objField b_marked b_global b_fMethod b_fPc b_fHigh b_fLocal b_fEntry hg2 (by omega) e2 (br_f (by decide) (br_f (nI_pos (by omega)) (br_f (nI_nlt (a := 15) (by omega) (by omega)) ⟨vp_in_nI hg2 (by omega), ?_⟩)))
          rw [nI_clamp (by omega), e2, nI_clamp (by omega), t2]
          refine ⟨vp_in_nI (by omega) (by omega), ev_yhas (nI tc) (nI mc) f_faultPlace f_latestResult f_linked g_bad g_high g_refs g_active g_ticks g_code a_typeAbove b_ownField a_methodType a_methodName a_codeLength a_bytes b_starts b_seen b_done b_heights b_local b_sure b_objType b_objField b_marked b_global b_fMethod b_fPc b_fHigh b_fLocal b_fEntry P hn ht ?_⟩
          cases hb : bt (a_fieldSet t) n
          · exact br_t rfl (J0 hb)
          · refine br_f (by decide) ⟨vp_in_nI hg2 (by omega), ?_⟩
            simp (disch := omega) only [nI_clamp, gm_clL, gm_in, gm_inL, gm_ml, gm_al, gm_la, gm_sl, nI_add, pk_mul, gm_eqL, gm_leL, gm_ltL, gm_Lle, gm_Llt, gm_eq, gm_le, gm_lt, gm_m1, forall_eq, true_and, Nat.not_lt_zero, Nat.add_sub_cancel, gm_z2, gm_z3, gm_z9, gm_z16, gm_z18, gm_z32, gm_z36, gm_z64, gm_z1152, not_true_eq_false, not_false_eq_true, false_implies, true_implies, and_true, implies_true]
            refine ⟨fun h8 => ?_, fun h8 => J3 hb (by omega)⟩
            obtain ⟨r, hr, q1, q2, -⟩ := f2 n h8 hn
            cases r with
            | zero =>
              rw [q2]
              exact br_f (by decide) (J1 hb h8 q2)
            | succ o' =>
              have q3 := q2
              rw [yR_s] at q3
              rw [q3]
              refine br_t (nI_pos' (by omega)) ⟨vp_in_nI (by omega) (by omega), ?_⟩
              rw [nI_clamp (by omega)]
              exact J2 hb h8 o' (by omega) q3
        cases hb : bt (a_fieldSet t) n
        · exact br_t rfl (yy _ (fun _ => ⟨rfl, I'⟩) (fun z => by rw [hb] at z; exact nomatch z) (fun z => by rw [hb] at z; exact nomatch z) (fun z => by rw [hb] at z; exact nomatch z))
        · refine br_f (by decide) ⟨vp_in_nI hg2 (by omega), ?_⟩
          rw [nI_clamp (by omega), e1]
          simp (disch := omega) only [nI_clamp, gm_clL, gm_in, gm_inL, gm_ml, gm_al, gm_la, gm_sl, nI_add, pk_mul, gm_eqL, gm_leL, gm_ltL, gm_Lle, gm_Llt, gm_eq, gm_le, gm_lt, gm_m1, forall_eq, true_and, Nat.not_lt_zero, Nat.add_sub_cancel, gm_z2, gm_z3, gm_z9, gm_z16, gm_z18, gm_z32, gm_z36, gm_z64, gm_z1152, not_true_eq_false, not_false_eq_true, false_implies, true_implies, and_true, implies_true]
          refine ev_vk (by omega) ?_
          unfold is_vk
          by_cases h8 : n < 8
          · rw [if_pos h8]
            refine br_f (by decide) ?_
            rw [f1 n h8]
            exact yy _ (fun z => by rw [hb] at z; exact nomatch z) (fun _ z => absurd z (by omega)) (fun _ z => absurd z (by omega)) (fun _ _ => ⟨rfl, I'⟩)
          · rw [if_neg h8]
            refine br_t rfl ?_
            obtain ⟨r, hr, q1, q2, -⟩ := f2 n (by omega) hn
            rw [q1]
            cases r with
            | zero =>
              refine ev_toN0 (nI tc) (nI mc) f_linked f_faultPlace f_flowHeight 0 f_ticksLeft f_outcome f_latestResult a_typeAbove a_fieldSet a_methodType a_methodName a_codeLength a_bytes a_isStart a_heightAt a_kindsAt a_isWaiting a_flowKinds a_globals a_objectType a_fieldValue a_isMarked a_frameMethod a_frameAt a_frameHeight a_slots (yy _ (fun z => by rw [hb] at z; exact nomatch z) (fun _ _ _ => ⟨rfl, I'⟩) (fun _ _ o' h' e' => ?_) (fun _ z => absurd z h8))
              rw [q2, yR_0] at e'
              exact absurd e'.symm (of_eq_false (gm_m1 (by omega)))
            | succ o' =>
              rw [yR_s] at q2
              refine ev_toN (nI tc) (nI mc) f_linked f_faultPlace f_flowHeight 0 f_ticksLeft f_outcome f_latestResult a_typeAbove a_fieldSet a_methodType a_methodName a_codeLength a_bytes a_isStart a_heightAt a_kindsAt a_isWaiting a_flowKinds a_globals a_objectType a_fieldValue a_isMarked a_frameMethod a_frameAt a_frameHeight a_slots (by omega) (yy _ (fun z => by rw [hb] at z; exact nomatch z) (fun _ _ e' => ?_) (fun _ _ o2 h' e' => ?_) (fun _ z => absurd z h8))
              · rw [q2] at e'
                exact absurd e' (of_eq_false (gm_m1 (by omega)))
              · rw [q2] at e'
                cases (nI_eq (by omega) (by omega)).mp e'
                obtain ⟨t', ht', t1', t2', -⟩ := ho o' (by omega)
                rw [t1', t2']
                exact ⟨rfl, I'⟩
theorem i_vc_follow {k : Nat} {u : SX} {v : SY} (I : i_Rel k u v) (hk : k + 4 ≤ 2048) (v1 : Int32) (v2 : Int32) : wpX_follow (fun r u' => wpY_follow (fun r' v' => r' = r ∧ i_Rel (k + 4) u' v') v v1 v2) u v1 v2 := by
  obtain ⟨f_typeCount, f_methodCount, f_linked, f_faultPlace, f_flowHeight, f_active, f_ticksLeft, f_outcome, f_latestResult, a_typeAbove, a_fieldSet, a_methodType, a_methodName, a_codeLength, a_bytes, a_isStart, a_heightAt, a_kindsAt, a_isWaiting, a_flowKinds, a_globals, a_objectType, a_fieldValue, a_isMarked, a_frameMethod, a_frameAt, a_frameHeight, a_slots⟩ := u
  obtain ⟨g_types, g_methods, g_place, g_result, g_linked, g_bad, g_high, g_refs, g_active, g_ticks, g_code, b_above, b_ownField, b_mType, b_mName, b_mLength, b_bytes, b_starts, b_seen, b_done, b_heights, b_local, b_sure, b_objType, b_objField, b_marked, b_global, b_fMethod, b_fPc, b_fHigh, b_fLocal, b_fEntry⟩ := v
  have I' := I
  obtain ⟨tc, mc, h, rfl, rfl, rfl, rfl, rfl, hl, rfl, hfp, rfl, rfl, rfl, rfl, rfl, rfl, rfl, P, KB, H, hh, hL⟩ := I
  obtain ⟨h10, hg, ho⟩ := H
  have h5 := P.1
  -- the reference refuses
  have yF : (v1 < 0 ∨ (¬ v1 < 0 ∧ nI 2 ≤ v1)) ∨ (∃ g, g < 2 ∧ v1 = nI g ∧ (b_global g = yR 0 ∨ v2 < 8 ∨ (¬ v2 < 8 ∧ 15 < v2))) → ∀ post : Int32 → SY → Prop, post 0 (nI tc, nI mc, f_faultPlace, f_latestResult, f_linked, g_bad, g_high, g_refs, g_active, g_ticks, g_code, a_typeAbove, b_ownField, a_methodType, a_methodName, a_codeLength, a_bytes, b_starts, b_seen, b_done, b_heights, b_local, b_sure, b_objType, b_objField, b_marked, b_global, b_fMethod, b_fPc, b_fHigh, b_fLocal, b_fEntry) → wpY_follow post (nI tc, nI mc, f_faultPlace, f_latestResult, f_linked, g_bad, g_high, g_refs, g_active, g_ticks, g_code, a_typeAbove, b_ownField, a_methodType, a_methodName, a_codeLength, a_bytes, b_starts, b_seen, b_done, b_heights, b_local, b_sure, b_objType, b_objField, b_marked, b_global, b_fMethod, b_fPc, b_fHigh, b_fLocal, b_fEntry) v1 v2 := by
    intro z post J
    unfold wpY_follow
    rcases z with z | ⟨g, hg2, rfl, z⟩
    · exact ev_hold0 (nI tc) (nI mc) f_faultPlace f_latestResult f_linked g_bad g_high g_refs g_active g_ticks g_code a_typeAbove b_ownField a_methodType a_methodName a_codeLength a_bytes b_starts b_seen b_done b_heights b_local b_sure b_objType b_objField b_marked b_global b_fMethod b_fPc b_fHigh b_fLocal b_fEntry z (br_t rfl J)
    · obtain ⟨r, hr, e1, e2⟩ := hg g hg2
      cases r with
      | zero => exact ev_holdN (nI tc) (nI mc) f_faultPlace f_latestResult f_linked g_bad g_high g_refs g_active g_ticks g_code a_typeAbove b_ownField a_methodType a_methodName a_codeLength a_bytes b_starts b_seen b_done b_heights b_local b_sure b_objType b_objField b_marked b_global b_fMethod b_fPc b_fHigh b_fLocal b_fEntry hg2 e2 (br_t rfl J)
      | succ o =>
        rw [yR_s] at e2
        refine ev_hold1 (nI tc) (nI mc) f_faultPlace f_latestResult f_linked g_bad g_high g_refs g_active g_ticks g_code a_typeAbove b_ownField a_methodType a_methodName a_codeLength a_bytes b_starts b_seen b_done b_heights b_local b_sure b_objType b_objField b_marked b_global b_fMethod b_fPc b_fHigh b_fLocal b_fEntry hg2 (by omega) e2 (br_f (by decide) ?_)
        rcases z with z | z | z
        · rw [e2, yR_0] at z
          exact absurd z (of_eq_false (gm_m1 (by omega)))
        · exact br_t z J
        · exact br_f z.1 (br_t z.2 J)
  unfold wpX_follow
  by_cases h8 : v2 < 8
  · refine br_t h8 ?_
    rcases gq_rng v1 (n := 2) (by omega) with z | z | ⟨g, hg2, rfl⟩
    · exact yF (Or.inl (Or.inl z)) _ ⟨rfl, I'⟩
    · exact yF (Or.inl (Or.inr z)) _ ⟨rfl, I'⟩
    · exact yF (Or.inr ⟨g, hg2, rfl, Or.inr (Or.inl h8)⟩) _ ⟨rfl, I'⟩
  · refine br_f h8 ?_
    rcases gq_rng v1 (n := 2) (by omega) with z | z | ⟨g, hg2, rfl⟩
    · exact ev_ghf0 (nI tc) (nI mc) f_linked f_faultPlace f_flowHeight 0 f_ticksLeft f_outcome f_latestResult a_typeAbove a_fieldSet a_methodType a_methodName a_codeLength a_bytes a_isStart a_heightAt a_kindsAt a_isWaiting a_flowKinds a_globals a_objectType a_fieldValue a_isMarked a_frameMethod a_frameAt a_frameHeight a_slots (Or.inl (Or.inl z)) (br_t rfl (yF (Or.inl (Or.inl z)) _ ⟨rfl, I'⟩))
    · exact ev_ghf0 (nI tc) (nI mc) f_linked f_faultPlace f_flowHeight 0 f_ticksLeft f_outcome f_latestResult a_typeAbove a_fieldSet a_methodType a_methodName a_codeLength a_bytes a_isStart a_heightAt a_kindsAt a_isWaiting a_flowKinds a_globals a_objectType a_fieldValue a_isMarked a_frameMethod a_frameAt a_frameHeight a_slots (Or.inl (Or.inr z)) (br_t rfl (yF (Or.inl (Or.inr z)) _ ⟨rfl, I'⟩))
    · rcases gq_rng v2 (n := 16) (by omega) with z | z | ⟨n, hn, rfl⟩
      · exact absurd (Int32.lt_of_lt_of_le z (by decide)) h8
      · exact ev_ghf0 (nI tc) (nI mc) f_linked f_faultPlace f_flowHeight 0 f_ticksLeft f_outcome f_latestResult a_typeAbove a_fieldSet a_methodType a_methodName a_codeLength a_bytes a_isStart a_heightAt a_kindsAt a_isWaiting a_flowKinds a_globals a_objectType a_fieldValue a_isMarked a_frameMethod a_frameAt a_frameHeight a_slots (Or.inr ⟨g, hg2, rfl, Or.inl (Or.inr z)⟩) (br_t rfl (yF (Or.inr ⟨g, hg2, rfl, Or.inr (Or.inr ⟨h8, gq_lt (n := 15) (by omega) z.2⟩)⟩) _ ⟨rfl, I'⟩))
      · have n8 : 8 ≤ n := by
          rw [gm_ltL (by omega) (by omega)] at h8
          omega
        obtain ⟨r, hr, e1, e2⟩ := hg g hg2
        cases r with
        | zero => exact ev_ghf0 (nI tc) (nI mc) f_linked f_faultPlace f_flowHeight 0 f_ticksLeft f_outcome f_latestResult a_typeAbove a_fieldSet a_methodType a_methodName a_codeLength a_bytes a_isStart a_heightAt a_kindsAt a_isWaiting a_flowKinds a_globals a_objectType a_fieldValue a_isMarked a_frameMethod a_frameAt a_frameHeight a_slots (Or.inr ⟨g, hg2, rfl, Or.inr ⟨n, hn, rfl, e1⟩⟩) (br_t rfl (yF (Or.inr ⟨g, hg2, rfl, Or.inl e2⟩) _ ⟨rfl, I'⟩))
        | succ o =>
          rw [yR_s] at e2
          obtain ⟨t, ht, t1, t2, f1, f2⟩ := ho o (by omega)
          refine ev_ghf (nI tc) (nI mc) f_linked f_faultPlace f_flowHeight 0 f_ticksLeft f_outcome f_latestResult a_typeAbove a_fieldSet a_methodType a_methodName a_codeLength a_bytes a_isStart a_heightAt a_kindsAt a_isWaiting a_flowKinds a_globals a_objectType a_fieldValue a_isMarked a_frameMethod a_frameAt a_frameHeight a_slots hg2 hn (by omega) (by omega) e1 t1 ?_
          have yy : ∀ post : Int32 → SY → Prop, (bt (a_fieldSet t) n = false → post 0 (nI tc, nI mc, f_faultPlace, f_latestResult, f_linked, g_bad, g_high, g_refs, g_active, g_ticks, g_code, a_typeAbove, b_ownField, a_methodType, a_methodName, a_codeLength, a_bytes, b_starts, b_seen, b_done, b_heights, b_local, b_sure, b_objType, b_objField, b_marked, b_global, b_fMethod, b_fPc, b_fHigh, b_fLocal, b_fEntry)) → (bt (a_fieldSet t) n = true → post 1 (nI tc, nI mc, f_faultPlace, f_latestResult, f_linked, g_bad, g_high, g_refs, g_active, g_ticks, g_code, a_typeAbove, b_ownField, a_methodType, a_methodName, a_codeLength, a_bytes, b_starts, b_seen, b_done, b_heights, b_local, b_sure, b_objType, b_objField, b_marked, upd b_global g (b_objField (o * 16 + n)), b_fMethod, b_fPc, b_fHigh, b_fLocal, b_fEntry)) → wpY_follow post (nI tc, nI mc, f_faultPlace, f_latestResult, f_linked, g_bad, g_high, g_refs, g_active, g_ticks, g_code, a_typeAbove, b_ownField, a_methodType, a_methodName, a_codeLength, a_bytes, b_starts, b_seen, b_done, b_heights, b_local, b_sure, b_objType, b_objField, b_marked, b_global, b_fMethod, b_fPc, b_fHigh, b_fLocal, b_fEntry) (nI g) (nI n) := by
            intro post J0 J1
            unfold wpY_follow
            refine ev_hold1 (nI tc) (nI mc) f_faultPlace f_latestResult f_linked g_bad g_high g_refs g_active g_ticks g_code a_typeAbove b_ownField a_methodType a_methodName a_codeLength a_bytes b_starts b_seen b_done b_heights b_local b_sure b_objType b_objField b_marked b_global b_fMethod b_fPc b_fHigh b_fLocal b_fEntry hg2 (by omega) e2 (br_f (by decide) (br_f h8 (br_f (nI_nlt (a := 15) (by omega) (by omega)) ⟨vp_in_nI hg2 (by omega), ?_⟩)))
            rw [nI_clamp (by omega), e2, nI_clamp (by omega), t2]
            refine ⟨vp_in_nI (by omega) (by omega), ev_yhas (nI tc) (nI mc) f_faultPlace f_latestResult f_linked g_bad g_high g_refs g_active g_ticks g_code a_typeAbove b_ownField a_methodType a_methodName a_codeLength a_bytes b_starts b_seen b_done b_heights b_local b_sure b_objType b_objField b_marked b_global b_fMethod b_fPc b_fHigh b_fLocal b_fEntry P hn ht ?_⟩
            cases hb : bt (a_fieldSet t) n
            · exact br_t rfl (J0 hb)
            · refine br_f (by decide) ⟨vp_in_nI hg2 (by omega), ?_⟩
              simp (disch := omega) only [nI_clamp, gm_clL, gm_in, gm_inL, gm_ml, gm_al, gm_la, gm_sl, nI_add, pk_mul, gm_eqL, gm_leL, gm_ltL, gm_Lle, gm_Llt, gm_eq, gm_le, gm_lt, gm_m1, forall_eq, true_and, Nat.not_lt_zero, Nat.add_sub_cancel, gm_z2, gm_z3, gm_z9, gm_z16, gm_z18, gm_z32, gm_z36, gm_z64, gm_z1152, not_true_eq_false, not_false_eq_true, false_implies, true_implies, and_true, implies_true]
              exact J1 hb
          cases hb : bt (a_fieldSet t) n
          · exact br_t rfl (yy _ (fun _ => ⟨rfl, I'⟩) (fun z => by rw [hb] at z; exact nomatch z))
          · refine br_f (by decide) ⟨vp_in_nI hg2 (by omega), ?_⟩
            rw [nI_clamp (by omega), e1]
            simp (disch := omega) only [nI_clamp, gm_clL, gm_in, gm_inL, gm_ml, gm_al, gm_la, gm_sl, nI_add, pk_mul, gm_eqL, gm_leL, gm_ltL, gm_Lle, gm_Llt, gm_eq, gm_le, gm_lt, gm_m1, forall_eq, true_and, Nat.not_lt_zero, Nat.add_sub_cancel, gm_z2, gm_z3, gm_z9, gm_z16, gm_z18, gm_z32, gm_z36, gm_z64, gm_z1152, not_true_eq_false, not_false_eq_true, false_implies, true_implies, and_true, implies_true]
            refine yy _ (fun z => by rw [hb] at z; exact nomatch z) (fun _ => ⟨rfl, tc, mc, h, rfl, rfl, rfl, rfl, rfl, hl, rfl, hfp, rfl, rfl, rfl, rfl, rfl, rfl, rfl, P, KB, ⟨h10, fun g' hg' => ?_, ho⟩, hh, hL⟩)
            by_cases e : g' = g
            · subst e
              obtain ⟨r, hr, q1, q2, -⟩ := f2 n n8 hn
              exact ⟨r, hr, by rw [pk_us, q1], by rw [pk_us, q2]⟩
            · rw [pk_un e, pk_un e]; exact hg g' hg'
end
section
/-! ===== iteration, marks ===== -/
def b01 (b : Bool) : Int32 := if b = true then 1 else 0
theorem b01_0 {b : Bool} : (b01 b = 0) = (b = false) := by cases b <;> simp [b01]
def itr {σ : Type} (g : Nat → σ → σ) : Nat → Nat → σ → σ
  | 0, _, s => s
  | d + 1, j, s => itr g d (j + 1) (g j s)
theorem itr_s {σ : Type} (g : Nat → σ → σ) (d j : Nat) (s : σ) : itr g (d + 1) j s = itr g d (j + 1) (g j s) := rfl
theorem itr_add {σ : Type} (g : Nat → σ → σ) (b : Nat) : ∀ a j s, itr g (a + b) j s = itr g b (j + a) (itr g a j s)
  | 0, j, s => by rw [Nat.zero_add, Nat.add_zero]; rfl
  | a + 1, j, s => by
    rw [show a + 1 + b = (a + b) + 1 by omega, itr_s, itr_add g b a, itr_s, show j + 1 + a = j + (a + 1) by omega]
theorem itr_id {σ : Type} (g : Nat → σ → σ) : ∀ d j s, (∀ i, j ≤ i → i < j + d → ∀ s, g i s = s) → itr g d j s = s
  | 0, _, _, _ => rfl
  | d + 1, j, s, h => by
    rw [itr_s, h j (by omega) (by omega)]
    exact itr_id g d (j + 1) s (fun i h1 h2 => h i (by omega) (by omega))
theorem itr_inv {σ : Type} (g : Nat → σ → σ) (Q : σ → Prop) : ∀ d j s, (∀ i, j ≤ i → i < j + d → ∀ s, Q s → Q (g i s)) → Q s → Q (itr g d j s)
  | 0, _, _, _, q => q
  | d + 1, j, s, h, q => by
    rw [itr_s]
    exact itr_inv g Q d (j + 1) _ (fun i h1 h2 => h i (by omega) (by omega)) (h j (by omega) (by omega) s q)
def mk1 (M : Nat → Bool) (r : Nat) : Nat → Bool := fun o => M o || decide (o + 1 = r)
theorem mk1_0 (M : Nat → Bool) : mk1 M 0 = M := by
  funext o
  simp [mk1]
def XM (xm : Nat → Int32) (M : Nat → Bool) : Prop := ∀ o, o < 10 → xm (o + 1) = b01 (M o)
def YM (ym : Nat → Int32) (M : Nat → Bool) : Prop := ∀ o, o < 10 → ym o = b01 (M o)
theorem XM_up {xm : Nat → Int32} {M : Nat → Bool} (h : XM xm M) (r : Nat) : XM (upd xm r 1) (mk1 M r) := by
  intro o ho
  unfold mk1
  by_cases e : o + 1 = r
  · subst e; rw [pk_us]; simp [b01]
  · rw [pk_un e, h o ho]; simp [e]
theorem YM_up {ym : Nat → Int32} {M : Nat → Bool} (h : YM ym M) (k : Nat) : YM (upd ym k 1) (mk1 M (k + 1)) := by
  intro o ho
  unfold mk1
  by_cases e : o = k
  · subst e; rw [pk_us]; simp [b01]
  · rw [pk_un e, h o ho]; simp [e]
theorem gm_dl {a n : Nat} (ha : a < 2 ^ 31) (h0 : 0 < (OfNat.ofNat n : Nat)) (hn : (OfNat.ofNat n : Nat) < 2 ^ 31) : nI a / (no_index (OfNat.ofNat n : Int32)) = nI (a / OfNat.ofNat n) := pk_div (d := n) ha h0 hn
theorem gm_sb {a b : Nat} (h : b ≤ a) : nI a - nI b = nI (a - b) := pk_sub h
/-- the reference's mark -/
theorem ev_mark (g_types g_methods g_place g_result g_linked g_bad g_high g_refs g_active g_ticks g_code : Int32) (b_above b_ownField b_mType b_mName b_mLength b_bytes b_starts : Nat → Int32) (b_seen b_done : Nat → Int64) (b_heights b_local b_sure b_objType b_objField b_marked b_global b_fMethod b_fPc b_fHigh b_fLocal b_fEntry : Nat → Int32) {post : SY → Prop} {r : Nat} {M : Nat → Bool} (hr : r ≤ 10) (h : YM b_marked M) (J : ∀ ym, YM ym (mk1 M r) → post (g_types, g_methods, g_place, g_result, g_linked, g_bad, g_high, g_refs, g_active, g_ticks, g_code, b_above, b_ownField, b_mType, b_mName, b_mLength, b_bytes, b_starts, b_seen, b_done, b_heights, b_local, b_sure, b_objType, b_objField, ym, b_global, b_fMethod, b_fPc, b_fHigh, b_fLocal, b_fEntry)) : wpY_mark post (g_types, g_methods, g_place, g_result, g_linked, g_bad, g_high, g_refs, g_active, g_ticks, g_code, b_above, b_ownField, b_mType, b_mName, b_mLength, b_bytes, b_starts, b_seen, b_done, b_heights, b_local, b_sure, b_objType, b_objField, b_marked, b_global, b_fMethod, b_fPc, b_fHigh, b_fLocal, b_fEntry) (yR r) := by
  cases r with
  | zero =>
    rw [yR_0]
    exact br_t (by decide) (J _ (by rw [mk1_0]; exact h))
  | succ k =>
    rw [yR_s]
    refine br_f (nI_pos (by omega)) ⟨vp_in_nI (by omega) (by omega), nm_e ?_⟩
    rw [nI_clamp (by omega), gm_nb1]
    exact J _ (YM_up h k)
/-! ===== the roots ===== -/
/-- the reference's slot s of frame f -/
def ysl (yl ye : Nat → Int32) (f s : Nat) : Int32 := if s < 4 then yl (f * 4 + s) else ye (f * 6 + (s - 4))
/-- the sure refs of n frames: rv f s, 0 where slot s of frame f is none -/
def RtOK (n : Nat) (rv : Nat → Nat → Nat) (K su fm fa fh sl ym yp yh yl ye : Nat → Int32) : Prop := ∀ f, f < n → ∃ m p hf, m < 8 ∧ p < 32 ∧ hf ≤ 5 ∧ fm f = nI m ∧ ym f = nI m ∧ fa f = nI p ∧ yp f = nI p ∧ fh f = nI hf ∧ yh f = nI hf ∧ (∀ s, s < 4 + hf → (K ((m * 32 + p) * 9 + s) = 4 ↔ bt (su (m * 32 + p)) s = true) ∧ (K ((m * 32 + p) * 9 + s) = 4 → sl (f * 9 + s) = nI (rv f s) ∧ ysl yl ye f s = yR (rv f s) ∧ rv f s ≤ 10) ∧ (K ((m * 32 + p) * 9 + s) ≠ 4 → rv f s = 0)) ∧ (∀ s, 4 + hf ≤ s → rv f s = 0)
def rtG (rv : Nat → Nat → Nat) (i : Nat) (M : Nat → Bool) : Nat → Bool := mk1 M (rv (i / 9) (i % 9))
theorem rtG_at (rv : Nat → Nat → Nat) {f s : Nat} (hs : s < 9) (M : Nat → Bool) : rtG rv (f * 9 + s) M = mk1 M (rv f s) := by
  unfold rtG
  rw [show (f * 9 + s) / 9 = f by omega, show (f * 9 + s) % 9 = s by omega]
theorem ev_mr78 (f_typeCount f_methodCount f_linked f_faultPlace f_flowHeight f_active f_ticksLeft f_outcome f_latestResult : Int32) (a_typeAbove a_fieldSet a_methodType a_methodName a_codeLength a_bytes a_isStart a_heightAt a_kindsAt a_isWaiting a_flowKinds a_globals a_objectType a_fieldValue a_frameMethod a_frameAt a_frameHeight a_slots : Nat → Int32) {n f m p hf : Nat} {rv : Nat → Nat → Nat} (hf6 : f < 6) (hm : m < 8) (hp : p < 32) (h5 : hf ≤ 5) (e3 : a_frameHeight f = nI hf)
    (hs : ∀ s, s < 4 + hf → (a_kindsAt ((m * 32 + p) * 9 + s) = 4 → a_slots (f * 9 + s) = nI (rv f s) ∧ rv f s ≤ 10) ∧ (a_kindsAt ((m * 32 + p) * 9 + s) ≠ 4 → rv f s = 0)) :
    ∀ d s, s + d = 4 + hf → ∀ xm M, XM xm M → ∃ xm', XM xm' (itr (rtG rv) d (f * 9 + s) M) ∧ ∀ post J, J (nI (f + 1)) a_typeAbove a_fieldSet a_methodType a_methodName a_codeLength a_bytes a_isStart a_heightAt a_kindsAt a_isWaiting a_flowKinds a_globals a_objectType a_fieldValue xm' a_frameMethod a_frameAt a_frameHeight a_slots → wX_markRoots_78 post J (nI f) (nI ((m * 32 + p) * 9)) f_typeCount f_methodCount f_linked f_faultPlace f_flowHeight f_active f_ticksLeft f_outcome f_latestResult (d + 1) (nI s) a_typeAbove a_fieldSet a_methodType a_methodName a_codeLength a_bytes a_isStart a_heightAt a_kindsAt a_isWaiting a_flowKinds a_globals a_objectType a_fieldValue xm a_frameMethod a_frameAt a_frameHeight a_slots := by
  intro d
  induction d with
  | zero =>
    intro s hsd xm M h
    refine ⟨xm, h, fun post J j => ?_⟩
    unfold wX_markRoots_78
    simp (disch := omega) only [nI_clamp, gm_clL, gm_in, gm_inL, gm_ml, gm_al, gm_la, gm_sl, nI_add, pk_mul, gm_eqL, gm_leL, gm_ltL, gm_Lle, gm_Llt, gm_eq, gm_le, gm_lt, gm_m1, forall_eq, true_and, Nat.not_lt_zero, Nat.add_sub_cancel, gm_z2, gm_z3, gm_z9, gm_z16, gm_z18, gm_z32, gm_z36, gm_z64, gm_z1152, not_true_eq_false, not_false_eq_true, false_implies, true_implies, and_true, implies_true, e3]
    exact ⟨fun _ => j, fun z => absurd (show 4 + hf ≤ s by omega) z⟩
  | succ d ih =>
    intro s hsd xm M h
    obtain ⟨a1, a2⟩ := hs s (by omega)
    by_cases e : a_kindsAt ((m * 32 + p) * 9 + s) = 4
    · obtain ⟨b1, b2⟩ := a1 e
      obtain ⟨xm', c1, c2⟩ := ih (s + 1) (by omega) (upd xm (rv f s) 1) (mk1 M (rv f s)) (XM_up h _)
      refine ⟨xm', ?_, fun post J j => ?_⟩
      · rw [itr_s, rtG_at rv (by omega)]
        exact c1
      · unfold wX_markRoots_78
        simp (disch := omega) only [nI_clamp, gm_clL, gm_in, gm_inL, gm_ml, gm_al, gm_la, gm_sl, nI_add, pk_mul, gm_eqL, gm_leL, gm_ltL, gm_Lle, gm_Llt, gm_eq, gm_le, gm_lt, gm_m1, forall_eq, true_and, Nat.not_lt_zero, Nat.add_sub_cancel, gm_z2, gm_z3, gm_z9, gm_z16, gm_z18, gm_z32, gm_z36, gm_z64, gm_z1152, not_true_eq_false, not_false_eq_true, false_implies, true_implies, and_true, implies_true, e3, e, b1, gm_nb1]
        exact ⟨fun z => absurd z (by omega), fun _ => c2 post J j⟩
    · obtain ⟨xm', c1, c2⟩ := ih (s + 1) (by omega) xm M h
      refine ⟨xm', ?_, fun post J j => ?_⟩
      · rw [itr_s, rtG_at rv (by omega), a2 e, mk1_0]
        exact c1
      · unfold wX_markRoots_78
        simp (disch := omega) only [nI_clamp, gm_clL, gm_in, gm_inL, gm_ml, gm_al, gm_la, gm_sl, nI_add, pk_mul, gm_eqL, gm_leL, gm_ltL, gm_Lle, gm_Llt, gm_eq, gm_le, gm_lt, gm_m1, forall_eq, true_and, Nat.not_lt_zero, Nat.add_sub_cancel, gm_z2, gm_z3, gm_z9, gm_z16, gm_z18, gm_z32, gm_z36, gm_z64, gm_z1152, not_true_eq_false, not_false_eq_true, false_implies, true_implies, and_true, implies_true, e3, e]
        exact ⟨fun z => absurd z (by omega), fun _ => c2 post J j⟩
theorem ev_mr48 (f_typeCount f_methodCount f_linked f_faultPlace f_flowHeight f_ticksLeft f_outcome f_latestResult : Int32) (a_typeAbove a_fieldSet a_methodType a_methodName a_codeLength a_bytes a_isStart a_heightAt a_kindsAt a_isWaiting a_flowKinds a_globals a_objectType a_fieldValue a_frameMethod a_frameAt a_frameHeight a_slots : Nat → Int32) {n : Nat} {rv : Nat → Nat → Nat} {su ym yp yh yl ye : Nat → Int32} (hn : n ≤ 6) (R : RtOK n rv a_kindsAt su a_frameMethod a_frameAt a_frameHeight a_slots ym yp yh yl ye) :
    ∀ d f, f + d = n → ∀ xm M, XM xm M → ∃ xm', XM xm' (itr (rtG rv) (d * 9) (f * 9) M) ∧ ∀ post, post (f_typeCount, f_methodCount, f_linked, f_faultPlace, f_flowHeight, nI n, f_ticksLeft, f_outcome, f_latestResult, a_typeAbove, a_fieldSet, a_methodType, a_methodName, a_codeLength, a_bytes, a_isStart, a_heightAt, a_kindsAt, a_isWaiting, a_flowKinds, a_globals, a_objectType, a_fieldValue, xm', a_frameMethod, a_frameAt, a_frameHeight, a_slots) → wX_markRoots_48 post f_typeCount f_methodCount f_linked f_faultPlace f_flowHeight (nI n) f_ticksLeft f_outcome f_latestResult (d + 1) (nI f) a_typeAbove a_fieldSet a_methodType a_methodName a_codeLength a_bytes a_isStart a_heightAt a_kindsAt a_isWaiting a_flowKinds a_globals a_objectType a_fieldValue xm a_frameMethod a_frameAt a_frameHeight a_slots := by
  intro d
  induction d with
  | zero =>
    intro f hf xm M h
    refine ⟨xm, by rw [Nat.zero_mul]; exact h, fun post J => ?_⟩
    unfold wX_markRoots_48
    exact br_t (nI_le (by omega) (by omega)) J
  | succ d ih =>
    intro f hfd xm M h
    obtain ⟨m, p, hf, hm, hp, h5, e1, -, e2, -, e3, -, hs, hz⟩ := R f (by omega)
    obtain ⟨xm1, c1, c2⟩ := ev_mr78 f_typeCount f_methodCount f_linked f_faultPlace f_flowHeight (nI n) f_ticksLeft f_outcome f_latestResult a_typeAbove a_fieldSet a_methodType a_methodName a_codeLength a_bytes a_isStart a_heightAt a_kindsAt a_isWaiting a_flowKinds a_globals a_objectType a_fieldValue a_frameMethod a_frameAt a_frameHeight a_slots (n := n) (f := f) (rv := rv) (by omega) hm hp h5 e3 (fun s h => ⟨fun z => ⟨((hs s h).2.1 z).1, ((hs s h).2.1 z).2.2⟩, (hs s h).2.2⟩) (4 + hf) 0 (by omega) xm M h
    obtain ⟨xm2, d1, d2⟩ := ih (f + 1) (by omega) xm1 _ c1
    refine ⟨xm2, ?_, fun post J => ?_⟩
    · rw [show (d + 1) * 9 = 9 + d * 9 by omega, itr_add, show f * 9 + 9 = (f + 1) * 9 by omega]
      have e : itr (rtG rv) 9 (f * 9) M = itr (rtG rv) (4 + hf) (f * 9 + 0) M := by
        rw [show itr (rtG rv) 9 (f * 9) M = itr (rtG rv) ((4 + hf) + (5 - hf)) (f * 9) M from by rw [show (4 + hf) + (5 - hf) = 9 by omega], itr_add]
        refine itr_id _ _ _ _ (fun i h1 h2 s => ?_)
        obtain ⟨s', rfl⟩ : ∃ s', i = f * 9 + s' := ⟨i - f * 9, by omega⟩
        rw [rtG_at rv (by omega), hz s' (by omega), mk1_0]
      rw [e]
      exact d1
    · unfold wX_markRoots_48
      simp (disch := omega) only [nI_clamp, gm_clL, gm_in, gm_inL, gm_ml, gm_al, gm_la, gm_sl, nI_add, pk_mul, gm_eqL, gm_leL, gm_ltL, gm_Lle, gm_Llt, gm_eq, gm_le, gm_lt, gm_m1, forall_eq, true_and, Nat.not_lt_zero, Nat.add_sub_cancel, gm_z2, gm_z3, gm_z9, gm_z16, gm_z18, gm_z32, gm_z36, gm_z64, gm_z1152, not_true_eq_false, not_false_eq_true, false_implies, true_implies, and_true, implies_true, e1, e2]
      exact ⟨fun z => absurd z (by omega), fun _ => ⟨4 + hf + 1, c2 _ _ (d2 post J)⟩⟩
theorem ev_mr2 (f_typeCount f_methodCount f_linked f_faultPlace f_flowHeight f_active f_ticksLeft f_outcome f_latestResult : Int32) (a_typeAbove a_fieldSet a_methodType a_methodName a_codeLength a_bytes a_isStart a_heightAt a_kindsAt a_isWaiting a_flowKinds a_globals a_objectType a_fieldValue a_frameMethod a_frameAt a_frameHeight a_slots : Nat → Int32) : ∀ d j, j + d = 11 → ∀ xm : Nat → Int32, (∀ o, o < j → xm o = 0) → ∃ xm' : Nat → Int32, (∀ o, o < 11 → xm' o = 0) ∧ ∀ post, (∃ n23, wX_markRoots_23 post f_typeCount f_methodCount f_linked f_faultPlace f_flowHeight f_active f_ticksLeft f_outcome f_latestResult n23 0 a_typeAbove a_fieldSet a_methodType a_methodName a_codeLength a_bytes a_isStart a_heightAt a_kindsAt a_isWaiting a_flowKinds a_globals a_objectType a_fieldValue xm' a_frameMethod a_frameAt a_frameHeight a_slots) → wX_markRoots_2 post f_typeCount f_methodCount f_linked f_faultPlace f_flowHeight f_active f_ticksLeft f_outcome f_latestResult (d + 1) (nI j) a_typeAbove a_fieldSet a_methodType a_methodName a_codeLength a_bytes a_isStart a_heightAt a_kindsAt a_isWaiting a_flowKinds a_globals a_objectType a_fieldValue xm a_frameMethod a_frameAt a_frameHeight a_slots := by
  intro d
  induction d with
  | zero =>
    intro j hj xm h
    cases (show j = 11 by omega)
    refine ⟨xm, h, fun post J => ?_⟩
    unfold wX_markRoots_2
    exact br_t (by decide) J
  | succ d ih =>
    intro j hj xm h
    obtain ⟨xm', c1, c2⟩ := ih (j + 1) (by omega) (upd xm j 0) (fun o ho => by
      by_cases e : o = j
      · subst e; exact pk_us
      · rw [pk_un e]; exact h o (by omega))
    refine ⟨xm', c1, fun post J => ?_⟩
    unfold wX_markRoots_2
    simp (disch := omega) only [nI_clamp, gm_clL, gm_in, gm_inL, gm_ml, gm_al, gm_la, gm_sl, nI_add, pk_mul, gm_eqL, gm_leL, gm_ltL, gm_Lle, gm_Llt, gm_eq, gm_le, gm_lt, gm_m1, forall_eq, true_and, Nat.not_lt_zero, Nat.add_sub_cancel, gm_z2, gm_z3, gm_z9, gm_z16, gm_z18, gm_z32, gm_z36, gm_z64, gm_z1152, not_true_eq_false, not_false_eq_true, false_implies, true_implies, and_true, implies_true, gm_nb0]
    exact ⟨fun z => absurd z (by omega), fun _ => c2 post J⟩
def M00 : Nat → Bool := fun _ => false
theorem ev_markRoots (f_typeCount f_methodCount f_linked f_faultPlace f_flowHeight f_ticksLeft f_outcome f_latestResult : Int32) (a_typeAbove a_fieldSet a_methodType a_methodName a_codeLength a_bytes a_isStart a_heightAt a_kindsAt a_isWaiting a_flowKinds a_globals a_objectType a_fieldValue a_isMarked a_frameMethod a_frameAt a_frameHeight a_slots : Nat → Int32) {n g0 g1 : Nat} {rv : Nat → Nat → Nat} {su ym yp yh yl ye : Nat → Int32} (hn : n ≤ 6) (R : RtOK n rv a_kindsAt su a_frameMethod a_frameAt a_frameHeight a_slots ym yp yh yl ye) (e0 : a_globals 0 = nI g0) (e1 : a_globals 1 = nI g1) (h0 : g0 ≤ 10) (h1 : g1 ≤ 10) :
    ∃ xm', XM xm' (itr (rtG rv) (n * 9) 0 (mk1 (mk1 M00 g0) g1)) ∧ ∀ post, post (f_typeCount, f_methodCount, f_linked, f_faultPlace, f_flowHeight, nI n, f_ticksLeft, f_outcome, f_latestResult, a_typeAbove, a_fieldSet, a_methodType, a_methodName, a_codeLength, a_bytes, a_isStart, a_heightAt, a_kindsAt, a_isWaiting, a_flowKinds, a_globals, a_objectType, a_fieldValue, xm', a_frameMethod, a_frameAt, a_frameHeight, a_slots) → wpX_markRoots post (f_typeCount, f_methodCount, f_linked, f_faultPlace, f_flowHeight, nI n, f_ticksLeft, f_outcome, f_latestResult, a_typeAbove, a_fieldSet, a_methodType, a_methodName, a_codeLength, a_bytes, a_isStart, a_heightAt, a_kindsAt, a_isWaiting, a_flowKinds, a_globals, a_objectType, a_fieldValue, a_isMarked, a_frameMethod, a_frameAt, a_frameHeight, a_slots) := by
  obtain ⟨xm1, a1, a2⟩ := ev_mr2 f_typeCount f_methodCount f_linked f_faultPlace f_flowHeight (nI n) f_ticksLeft f_outcome f_latestResult a_typeAbove a_fieldSet a_methodType a_methodName a_codeLength a_bytes a_isStart a_heightAt a_kindsAt a_isWaiting a_flowKinds a_globals a_objectType a_fieldValue a_frameMethod a_frameAt a_frameHeight a_slots 11 0 rfl a_isMarked (fun o z => absurd z (by omega))
  have b1 : XM xm1 M00 := fun o ho => a1 (o + 1) (by omega)
  obtain ⟨xm2, c1, c2⟩ := ev_mr48 f_typeCount f_methodCount f_linked f_faultPlace f_flowHeight f_ticksLeft f_outcome f_latestResult a_typeAbove a_fieldSet a_methodType a_methodName a_codeLength a_bytes a_isStart a_heightAt a_kindsAt a_isWaiting a_flowKinds a_globals a_objectType a_fieldValue a_frameMethod a_frameAt a_frameHeight a_slots hn R n 0 (by omega) _ _ (XM_up (XM_up b1 g0) g1)
  refine ⟨xm2, by rw [Nat.zero_mul] at c1; exact c1, fun post J => ⟨12, a2 post ⟨3, ?_⟩⟩⟩
  unfold wX_markRoots_23
  refine br_f (by decide) ⟨vp_in_nI (n := 0) (by omega) (by omega), ?_⟩
  rw [show (0 : Int32).toNatClampNeg = 0 from rfl, e0, nI_clamp (by omega), gm_nb1]
  refine ⟨vp_in_nI (by omega) (by omega), nm_e (nm_e ?_)⟩
  unfold wX_markRoots_23
  refine br_f (by decide) ⟨vp_in_nI (n := 1) (by omega) (by omega), ?_⟩
  rw [show ((0 : Int32) + 1).toNatClampNeg = 1 from rfl, e1, nI_clamp (by omega), gm_nb1]
  refine ⟨vp_in_nI (by omega) (by omega), nm_e (nm_e ?_)⟩
  unfold wX_markRoots_23
  exact br_t (by decide) ⟨n + 1, c2 post J⟩
end
section
/-! ===== the fields ===== -/
def fdG (rr : Nat → Nat → Nat) (i : Nat) (M : Nat → Bool) : Nat → Bool := if 8 ≤ i % 16 ∧ M (i / 16) = true then mk1 M (rr (i / 16) (i % 16)) else M
theorem fdG_at (rr : Nat → Nat → Nat) {o f : Nat} (hf : f < 16) (M : Nat → Bool) : fdG rr (o * 16 + f) M = if 8 ≤ f ∧ M o = true then mk1 M (rr o f) else M := by
  unfold fdG
  rw [show (o * 16 + f) / 16 = o by omega, show (o * 16 + f) % 16 = f by omega]
/-- nothing at h or beyond is marked -/
def MI (h : Nat) (M : Nat → Bool) : Prop := ∀ o, M o = true → o < h
theorem MI_mk1 {h r : Nat} {M : Nat → Bool} (I : MI h M) (hr : r ≤ h) : MI h (mk1 M r) := by
  intro o ho
  unfold mk1 at ho
  rw [Bool.or_eq_true] at ho
  rcases ho with z | z
  · exact I o z
  · have := of_decide_eq_true z
    omega
theorem MI_fdG {h : Nat} {rr : Nat → Nat → Nat} (hr : ∀ o, o < h → ∀ f, 8 ≤ f → f < 16 → rr o f ≤ h) (i : Nat) {M : Nat → Bool} (I : MI h M) : MI h (fdG rr i M) := by
  unfold fdG
  split
  · rename_i z
    exact MI_mk1 I (hr _ (I _ z.2) _ z.1 (by omega))
  · exact I
theorem MI_00 (h : Nat) : MI h M00 := fun o z => nomatch z
theorem MI_rtG {h n : Nat} {rv : Nat → Nat → Nat} (hr : ∀ f s, rv f s ≤ h) (i : Nat) {M : Nat → Bool} (I : MI h M) : MI h (rtG rv i M) := MI_mk1 I (hr _ _)
/-- the refs of the objects' fields: for both sides -/
def FdOK (h : Nat) (rr : Nat → Nat → Nat) (fv : Nat → Int32) : Prop := h ≤ 10 ∧ ∀ o, o < h → ∀ f, 8 ≤ f → f < 16 → rr o f ≤ h ∧ fv ((o + 1) * 16 + f) = nI (rr o f)
theorem ev_mf19 (f_typeCount f_methodCount f_linked f_faultPlace f_flowHeight f_active f_ticksLeft f_outcome f_latestResult : Int32) (a_typeAbove a_fieldSet a_methodType a_methodName a_codeLength a_bytes a_isStart a_heightAt a_kindsAt a_isWaiting a_flowKinds a_globals a_objectType a_fieldValue a_frameMethod a_frameAt a_frameHeight a_slots : Nat → Int32) {h o : Nat} {rr : Nat → Nat → Nat} (F : FdOK h rr a_fieldValue) (ho : o < 10) :
    ∀ d f, f + d = 16 → 8 ≤ f → ∀ xm M, XM xm M → MI h M → ∃ xm', XM xm' (itr (fdG rr) d (o * 16 + f) M) ∧ ∀ post J2 J10 (x1 : Int32), J10 (nI (o + 1 + 1)) a_typeAbove a_fieldSet a_methodType a_methodName a_codeLength a_bytes a_isStart a_heightAt a_kindsAt a_isWaiting a_flowKinds a_globals a_objectType a_fieldValue xm' a_frameMethod a_frameAt a_frameHeight a_slots → wX_markFields_19 post J2 J10 x1 (nI (o + 1)) f_typeCount f_methodCount f_linked f_faultPlace f_flowHeight f_active f_ticksLeft f_outcome f_latestResult (d + 1) (nI f) a_typeAbove a_fieldSet a_methodType a_methodName a_codeLength a_bytes a_isStart a_heightAt a_kindsAt a_isWaiting a_flowKinds a_globals a_objectType a_fieldValue xm a_frameMethod a_frameAt a_frameHeight a_slots := by
  intro d
  induction d with
  | zero =>
    intro f hf h8 xm M hX I
    cases (show f = 16 by omega)
    refine ⟨xm, hX, fun post J2 J10 x1 j => ?_⟩
    unfold wX_markFields_19
    exact br_t (by decide) (nm_r (nI_1 _) j)
  | succ d ih =>
    intro f hf h8 xm M hX I
    have hx := hX o ho
    cases hM : M o
    · refine ⟨xm, ?_, fun post J2 J10 x1 j => ?_⟩
      · have : ∀ d f, f + d = 16 → itr (fdG rr) d (o * 16 + f) M = M := by
          intro d
          induction d with
          | zero => intro f _; rfl
          | succ d ih2 =>
            intro f hf
            rw [itr_s, fdG_at rr (by omega), if_neg (by rw [hM]; exact fun z => nomatch z.2)]
            exact ih2 (f + 1) (by omega)
        rw [this (d + 1) f hf]
        exact hX
      · unfold wX_markFields_19
        rw [hM] at hx
        simp (disch := omega) only [nI_clamp, gm_clL, gm_in, gm_inL, gm_ml, gm_al, gm_la, gm_sl, nI_add, pk_mul, gm_eqL, gm_leL, gm_ltL, gm_Lle, gm_Llt, gm_eq, gm_le, gm_lt, gm_m1, forall_eq, true_and, Nat.not_lt_zero, Nat.add_sub_cancel, gm_z2, gm_z3, gm_z9, gm_z16, gm_z18, gm_z32, gm_z36, gm_z64, gm_z1152, not_true_eq_false, not_false_eq_true, false_implies, true_implies, and_true, implies_true]
        exact ⟨fun z => absurd z (by omega), fun _ => br_t hx j⟩
    · obtain ⟨a1, a2⟩ := F.2 o (I o hM) f h8 (by omega)
      have a3 := F.1
      obtain ⟨xm', c1, c2⟩ := ih (f + 1) (by omega) (by omega) (upd xm (rr o f) 1) (mk1 M (rr o f)) (XM_up hX _) (MI_mk1 I a1)
      refine ⟨xm', ?_, fun post J2 J10 x1 j => ?_⟩
      · rw [itr_s, fdG_at rr (by omega), if_pos ⟨h8, hM⟩]
        exact c1
      · unfold wX_markFields_19
        rw [hM] at hx
        simp (disch := omega) only [nI_clamp, gm_clL, gm_in, gm_inL, gm_ml, gm_al, gm_la, gm_sl, nI_add, pk_mul, gm_eqL, gm_leL, gm_ltL, gm_Lle, gm_Llt, gm_eq, gm_le, gm_lt, gm_m1, forall_eq, true_and, Nat.not_lt_zero, Nat.add_sub_cancel, gm_z2, gm_z3, gm_z9, gm_z16, gm_z18, gm_z32, gm_z36, gm_z64, gm_z1152, not_true_eq_false, not_false_eq_true, false_implies, true_implies, and_true, implies_true, a2, gm_nb1]
        exact ⟨fun z => absurd z (by omega), fun _ => br_f (by rw [hx]; decide) (c2 post J2 J10 x1 j)⟩
theorem ev_mf10 (f_typeCount f_methodCount f_linked f_faultPlace f_flowHeight f_active f_ticksLeft f_outcome f_latestResult : Int32) (a_typeAbove a_fieldSet a_methodType a_methodName a_codeLength a_bytes a_isStart a_heightAt a_kindsAt a_isWaiting a_flowKinds a_globals a_objectType a_fieldValue a_frameMethod a_frameAt a_frameHeight a_slots : Nat → Int32) {h : Nat} {rr : Nat → Nat → Nat} (F : FdOK h rr a_fieldValue) :
    ∀ d o, o + d = 10 → ∀ xm M, XM xm M → MI h M → ∃ xm', XM xm' (itr (fdG rr) (d * 16) (o * 16) M) ∧ ∀ post J2 (x1 : Nat), J2 (nI (x1 + 1)) a_typeAbove a_fieldSet a_methodType a_methodName a_codeLength a_bytes a_isStart a_heightAt a_kindsAt a_isWaiting a_flowKinds a_globals a_objectType a_fieldValue xm' a_frameMethod a_frameAt a_frameHeight a_slots → wX_markFields_10 post J2 (nI x1) f_typeCount f_methodCount f_linked f_faultPlace f_flowHeight f_active f_ticksLeft f_outcome f_latestResult (d + 1) (nI (o + 1)) a_typeAbove a_fieldSet a_methodType a_methodName a_codeLength a_bytes a_isStart a_heightAt a_kindsAt a_isWaiting a_flowKinds a_globals a_objectType a_fieldValue xm a_frameMethod a_frameAt a_frameHeight a_slots := by
  intro d
  induction d with
  | zero =>
    intro o ho xm M hX I
    cases (show o = 10 by omega)
    refine ⟨xm, by rw [Nat.zero_mul]; exact hX, fun post J2 x1 j => ?_⟩
    unfold wX_markFields_10
    exact br_t (by decide) (nm_r (nI_1 _) j)
  | succ d ih =>
    intro o ho xm M hX I
    have e8 : itr (fdG rr) 8 (o * 16) M = M := itr_id _ _ _ _ (fun i h1 h2 s => by
      obtain ⟨f, rfl⟩ : ∃ f, i = o * 16 + f := ⟨i - o * 16, by omega⟩
      rw [fdG_at rr (by omega), if_neg (fun z => by omega)])
    have e16 : itr (fdG rr) 16 (o * 16) M = itr (fdG rr) 8 (o * 16 + 8) M := by
      rw [show (16 : Nat) = 8 + 8 from rfl, itr_add, show o * (8 + 8) = o * 16 from rfl, e8]
    obtain ⟨xm1, c1, c2⟩ := ev_mf19 f_typeCount f_methodCount f_linked f_faultPlace f_flowHeight f_active f_ticksLeft f_outcome f_latestResult a_typeAbove a_fieldSet a_methodType a_methodName a_codeLength a_bytes a_isStart a_heightAt a_kindsAt a_isWaiting a_flowKinds a_globals a_objectType a_fieldValue a_frameMethod a_frameAt a_frameHeight a_slots F (by omega : o < 10) 8 8 rfl (by omega) xm M hX I
    rw [← e16] at c1
    have I1 : MI h (itr (fdG rr) 16 (o * 16) M) := itr_inv _ (MI h) _ _ _ (fun i _ _ s => MI_fdG (fun o ho f h8 h16 => (F.2 o ho f h8 h16).1) i) I
    obtain ⟨xm2, d1, d2⟩ := ih (o + 1) (by omega) xm1 _ c1 I1
    refine ⟨xm2, ?_, fun post J2 x1 j => ?_⟩
    · rw [show (d + 1) * 16 = 16 + d * 16 by omega, itr_add, show o * 16 + 16 = (o + 1) * 16 by omega]
      exact d1
    · unfold wX_markFields_10
      exact br_f (nI_ge (b := 11) (by omega) (by decide)) ⟨9, c2 _ _ _ _ (d2 post J2 x1 j)⟩
theorem ev_mf2 (f_typeCount f_methodCount f_linked f_faultPlace f_flowHeight f_active f_ticksLeft f_outcome f_latestResult : Int32) (a_typeAbove a_fieldSet a_methodType a_methodName a_codeLength a_bytes a_isStart a_heightAt a_kindsAt a_isWaiting a_flowKinds a_globals a_objectType a_fieldValue a_frameMethod a_frameAt a_frameHeight a_slots : Nat → Int32) {h : Nat} {rr : Nat → Nat → Nat} (F : FdOK h rr a_fieldValue) :
    ∀ d x, x + d = 10 → ∀ xm M, XM xm M → MI h M → ∃ xm', XM xm' (itr (fun _ => itr (fdG rr) 160 0) d x M) ∧ ∀ post, post (f_typeCount, f_methodCount, f_linked, f_faultPlace, f_flowHeight, f_active, f_ticksLeft, f_outcome, f_latestResult, a_typeAbove, a_fieldSet, a_methodType, a_methodName, a_codeLength, a_bytes, a_isStart, a_heightAt, a_kindsAt, a_isWaiting, a_flowKinds, a_globals, a_objectType, a_fieldValue, xm', a_frameMethod, a_frameAt, a_frameHeight, a_slots) → wX_markFields_2 post f_typeCount f_methodCount f_linked f_faultPlace f_flowHeight f_active f_ticksLeft f_outcome f_latestResult (d + 1) (nI x) a_typeAbove a_fieldSet a_methodType a_methodName a_codeLength a_bytes a_isStart a_heightAt a_kindsAt a_isWaiting a_flowKinds a_globals a_objectType a_fieldValue xm a_frameMethod a_frameAt a_frameHeight a_slots := by
  intro d
  induction d with
  | zero =>
    intro x hx xm M hX I
    cases (show x = 10 by omega)
    refine ⟨xm, hX, fun post j => ?_⟩
    unfold wX_markFields_2
    exact br_t (by decide) j
  | succ d ih =>
    intro x hx xm M hX I
    obtain ⟨xm1, c1, c2⟩ := ev_mf10 f_typeCount f_methodCount f_linked f_faultPlace f_flowHeight f_active f_ticksLeft f_outcome f_latestResult a_typeAbove a_fieldSet a_methodType a_methodName a_codeLength a_bytes a_isStart a_heightAt a_kindsAt a_isWaiting a_flowKinds a_globals a_objectType a_fieldValue a_frameMethod a_frameAt a_frameHeight a_slots F 10 0 rfl xm M hX I
    have I1 : MI h (itr (fdG rr) 160 0 M) := itr_inv _ (MI h) _ _ _ (fun i _ _ s => MI_fdG (fun o ho f h8 h16 => (F.2 o ho f h8 h16).1) i) I
    obtain ⟨xm2, d1, d2⟩ := ih (x + 1) (by omega) xm1 _ c1 I1
    refine ⟨xm2, d1, fun post j => ?_⟩
    unfold wX_markFields_2
    exact br_f (nI_ge (b := 10) (by omega) (by decide)) ⟨11, c2 _ _ x (d2 post j)⟩
/-! ===== the whole mark, counted ===== -/
def mfin (g0 g1 : Nat) (rv rr : Nat → Nat → Nat) (n : Nat) : Nat → Bool := itr (fun _ => itr (fdG rr) 160 0) 10 0 (itr (rtG rv) (n * 9) 0 (mk1 (mk1 M00 g0) g1))
theorem MI_fin {h g0 g1 n : Nat} {rv rr : Nat → Nat → Nat} {fv : Nat → Int32} (F : FdOK h rr fv) (h0 : g0 ≤ h) (h1 : g1 ≤ h) (hr : ∀ f s, rv f s ≤ h) : MI h (itr (rtG rv) (n * 9) 0 (mk1 (mk1 M00 g0) g1)) ∧ MI h (mfin g0 g1 rv rr n) := by
  have a : MI h (itr (rtG rv) (n * 9) 0 (mk1 (mk1 M00 g0) g1)) := itr_inv _ (MI h) _ _ _ (fun i _ _ s I => MI_mk1 I (hr _ _)) (MI_mk1 (MI_mk1 (MI_00 h) h0) h1)
  refine ⟨a, ?_⟩
  unfold mfin
  exact itr_inv _ (MI h) _ _ _ (fun i _ _ s I => itr_inv _ (MI h) _ _ _ (fun i _ _ s => MI_fdG (fun o ho f h8 h16 => (F.2 o ho f h8 h16).1) i) I) a
def cb (M : Nat → Bool) : Nat → Nat
  | 0 => 0
  | j + 1 => cb M j + (if M j = true then 1 else 0)
theorem cb_le (M : Nat → Bool) : ∀ j, cb M j ≤ j
  | 0 => Nat.le_refl 0
  | j + 1 => by
    have := cb_le M j
    unfold cb
    split <;> omega
theorem cb_lt {M : Nat → Bool} : ∀ {j}, cb M j < j → ∃ l, l < j ∧ M l = false ∧ ∀ o, o < l → M o = true
  | 0, h => absurd h (by omega)
  | j + 1, h => by
    unfold cb at h
    by_cases c : cb M j < j
    · obtain ⟨l, a, b⟩ := cb_lt c
      exact ⟨l, by omega, b⟩
    · cases hM : M j
      · refine ⟨j, by omega, hM, fun o ho => ?_⟩
        cases ho2 : M o
        · exfalso
          have : ∀ k, o < k → cb M k < k := by
            intro k
            induction k with
            | zero => intro z; exact absurd z (by omega)
            | succ k ih =>
              intro z
              unfold cb
              by_cases e : o = k
              · subst e
                rw [ho2]
                have := cb_le M o
                simp; omega
              · have := ih (by omega)
                split <;> omega
          exact c (this j ho)
        · rfl
      · rw [hM] at h
        simp at h
        omega
theorem ev_cm (f_typeCount f_methodCount f_linked f_faultPlace f_flowHeight f_active f_ticksLeft f_outcome f_latestResult : Int32) (a_typeAbove a_fieldSet a_methodType a_methodName a_codeLength a_bytes a_isStart a_heightAt a_kindsAt a_isWaiting a_flowKinds a_globals a_objectType a_fieldValue a_isMarked a_frameMethod a_frameAt a_frameHeight a_slots : Nat → Int32) {post : Int32 → Prop} {M : Nat → Bool} (h : XM a_isMarked M) (J : post (nI (cb M 10))) : ∀ d j, j + d = 10 → wX_countMarked_4 post f_typeCount f_methodCount f_linked f_faultPlace f_flowHeight f_active f_ticksLeft f_outcome f_latestResult a_typeAbove a_fieldSet a_methodType a_methodName a_codeLength a_bytes a_isStart a_heightAt a_kindsAt a_isWaiting a_flowKinds a_globals a_objectType a_fieldValue a_isMarked a_frameMethod a_frameAt a_frameHeight a_slots (d + 1) (nI (cb M j)) (nI (j + 1)) := by
  intro d
  induction d with
  | zero =>
    intro j hj
    cases (show j = 10 by omega)
    unfold wX_countMarked_4
    exact br_t (by decide) J
  | succ d ih =>
    intro j hj
    have hx := h j (by omega)
    have hc := cb_le M j
    have h2 := ih (j + 1) (by omega)
    unfold cb at h2
    unfold wX_countMarked_4
    simp (disch := omega) only [nI_clamp, gm_clL, gm_in, gm_inL, gm_ml, gm_al, gm_la, gm_sl, nI_add, pk_mul, gm_eqL, gm_leL, gm_ltL, gm_Lle, gm_Llt, gm_eq, gm_le, gm_lt, gm_m1, forall_eq, true_and, Nat.not_lt_zero, Nat.add_sub_cancel, gm_z2, gm_z3, gm_z9, gm_z16, gm_z18, gm_z32, gm_z36, gm_z64, gm_z1152, not_true_eq_false, not_false_eq_true, false_implies, true_implies, and_true, implies_true, Nat.add_zero]
    refine ⟨fun z => absurd z (by omega), fun _ => ?_⟩
    cases hM : M j
    · rw [hM] at hx h2
      exact br_t hx h2
    · rw [hM] at hx h2
      exact br_f (by rw [hx]; decide) h2
theorem ev_countMarked (f_typeCount f_methodCount f_linked f_faultPlace f_flowHeight f_active f_ticksLeft f_outcome f_latestResult : Int32) (a_typeAbove a_fieldSet a_methodType a_methodName a_codeLength a_bytes a_isStart a_heightAt a_kindsAt a_isWaiting a_flowKinds a_globals a_objectType a_fieldValue a_isMarked a_frameMethod a_frameAt a_frameHeight a_slots : Nat → Int32) {post : Int32 → Prop} {M : Nat → Bool} (h : XM a_isMarked M) (J : post (nI (cb M 10))) : wpX_countMarked post (f_typeCount, f_methodCount, f_linked, f_faultPlace, f_flowHeight, f_active, f_ticksLeft, f_outcome, f_latestResult, a_typeAbove, a_fieldSet, a_methodType, a_methodName, a_codeLength, a_bytes, a_isStart, a_heightAt, a_kindsAt, a_isWaiting, a_flowKinds, a_globals, a_objectType, a_fieldValue, a_isMarked, a_frameMethod, a_frameAt, a_frameHeight, a_slots) := ⟨11, ev_cm f_typeCount f_methodCount f_linked f_faultPlace f_flowHeight f_active f_ticksLeft f_outcome f_latestResult a_typeAbove a_fieldSet a_methodType a_methodName a_codeLength a_bytes a_isStart a_heightAt a_kindsAt a_isWaiting a_flowKinds a_globals a_objectType a_fieldValue a_isMarked a_frameMethod a_frameAt a_frameHeight a_slots h J 10 0 rfl⟩
/-! ===== the reference's reached ===== -/
theorem ev_yr43 (g_types g_methods g_place g_result g_linked g_bad g_high g_refs g_active g_ticks g_code : Int32) (b_above b_ownField b_mType b_mName b_mLength b_bytes b_starts : Nat → Int32) (b_seen b_done : Nat → Int64) (b_heights b_local b_sure b_objType b_objField b_global b_fMethod b_fPc b_fHigh b_fLocal b_fEntry : Nat → Int32) {n : Nat} {rv : Nat → Nat → Nat} {K fm fa fh sl : Nat → Int32} (hn : n ≤ 6) (R : RtOK n rv K b_sure fm fa fh sl b_fMethod b_fPc b_fHigh b_fLocal b_fEntry) :
    ∀ d i, i + d = n * 9 → ∀ ym M, YM ym M → ∃ ym', YM ym' (itr (rtG rv) d i M) ∧ ∀ post, (∃ n161, wY_reached_161 post n161 0 g_types g_methods g_place g_result g_linked g_bad g_high g_refs g_active g_ticks g_code b_above b_ownField b_mType b_mName b_mLength b_bytes b_starts b_seen b_done b_heights b_local b_sure b_objType b_objField ym' b_global b_fMethod b_fPc b_fHigh b_fLocal b_fEntry) → wY_reached_43 post (nI n) (d + 1) (nI i) g_types g_methods g_place g_result g_linked g_bad g_high g_refs g_active g_ticks g_code b_above b_ownField b_mType b_mName b_mLength b_bytes b_starts b_seen b_done b_heights b_local b_sure b_objType b_objField ym b_global b_fMethod b_fPc b_fHigh b_fLocal b_fEntry := by
  intro d
  induction d with
  | zero =>
    intro i hi ym M h
    refine ⟨ym, h, fun post J => ?_⟩
    unfold wY_reached_43
    simp (disch := omega) only [nI_clamp, gm_clL, gm_in, gm_inL, gm_ml, gm_al, gm_la, gm_sl, nI_add, pk_mul, gm_eqL, gm_leL, gm_ltL, gm_Lle, gm_Llt, gm_eq, gm_le, gm_lt, gm_m1, forall_eq, true_and, Nat.not_lt_zero, Nat.add_sub_cancel, gm_z2, gm_z3, gm_z9, gm_z16, gm_z18, gm_z32, gm_z36, gm_z64, gm_z1152, not_true_eq_false, not_false_eq_true, false_implies, true_implies, and_true, implies_true]
    exact ⟨fun _ => J, fun z => absurd (show n * 9 ≤ i by omega) z⟩
  | succ d ih =>
    intro i hi ym M h
    obtain ⟨f, s, hs9, rfl⟩ : ∃ f s, s < 9 ∧ i = f * 9 + s := ⟨i / 9, i % 9, by omega, by omega⟩
    obtain ⟨m, p, hf, hm, hp, h5, -, e1, -, e2, -, e3, hs, hz⟩ := R f (by omega)
    have q1 : (f * 9 + s) / 9 = f := by omega
    have q2 : f * 9 + s - f * 9 = s := by omega
    rw [itr_s, rtG_at rv hs9]
    have skip : rv f s = 0 → ∃ ym', YM ym' (itr (rtG rv) d (f * 9 + s + 1) (mk1 M (rv f s))) ∧ ∀ post, (∃ n161, wY_reached_161 post n161 0 g_types g_methods g_place g_result g_linked g_bad g_high g_refs g_active g_ticks g_code b_above b_ownField b_mType b_mName b_mLength b_bytes b_starts b_seen b_done b_heights b_local b_sure b_objType b_objField ym' b_global b_fMethod b_fPc b_fHigh b_fLocal b_fEntry) → wY_reached_43 post (nI n) d.succ (nI (f * 9 + s + 1)) g_types g_methods g_place g_result g_linked g_bad g_high g_refs g_active g_ticks g_code b_above b_ownField b_mType b_mName b_mLength b_bytes b_starts b_seen b_done b_heights b_local b_sure b_objType b_objField ym b_global b_fMethod b_fPc b_fHigh b_fLocal b_fEntry := by
      intro e
      rw [e, mk1_0]
      obtain ⟨ym', c1, c2⟩ := ih (f * 9 + s + 1) (by omega) ym M h
      exact ⟨ym', c1, c2⟩
    by_cases hb : bt (b_sure (m * 32 + p)) s = false
    · have e0 : rv f s = 0 := by
        by_cases hh : s < 4 + hf
        · obtain ⟨a1, a2, a3⟩ := hs s hh
          refine a3 (fun z => ?_)
          rw [a1.mp z] at hb
          exact nomatch hb
        · exact hz s (by omega)
      obtain ⟨ym', c1, c2⟩ := skip e0
      refine ⟨ym', c1, fun post J => ?_⟩
      unfold wY_reached_43
      simp (disch := omega) only [nI_clamp, gm_clL, gm_in, gm_inL, gm_ml, gm_al, gm_la, gm_sl, nI_add, pk_mul, gm_eqL, gm_leL, gm_ltL, gm_Lle, gm_Llt, gm_eq, gm_le, gm_lt, gm_m1, forall_eq, true_and, Nat.not_lt_zero, Nat.add_sub_cancel, gm_z2, gm_z3, gm_z9, gm_z16, gm_z18, gm_z32, gm_z36, gm_z64, gm_z1152, not_true_eq_false, not_false_eq_true, false_implies, true_implies, and_true, implies_true, gm_dl, gm_sb, q1, q2, e1, e2, gm_bit0]
      exact ⟨fun z => absurd z (by omega), fun _ => br_t hb (c2 post J)⟩
    · have hb1 : bt (b_sure (m * 32 + p)) s = true := by
        cases h : bt (b_sure (m * 32 + p)) s
        · exact absurd h hb
        · rfl
      by_cases h4 : 4 ≤ s
      · by_cases hh : s < 4 + hf
        · obtain ⟨a1, a2, a3⟩ := hs s hh
          obtain ⟨b1, b2, b3⟩ := a2 (a1.mpr hb1)
          unfold ysl at b2
          rw [if_neg (by omega)] at b2
          have q3 : f * 6 + s - 4 = f * 6 + (s - 4) := by omega
          obtain ⟨ym', c1, c2⟩ : ∃ ym', YM ym' (mk1 M (rv f s)) ∧ ∀ post : SY → Prop, post (g_types, g_methods, g_place, g_result, g_linked, g_bad, g_high, g_refs, g_active, g_ticks, g_code, b_above, b_ownField, b_mType, b_mName, b_mLength, b_bytes, b_starts, b_seen, b_done, b_heights, b_local, b_sure, b_objType, b_objField, ym', b_global, b_fMethod, b_fPc, b_fHigh, b_fLocal, b_fEntry) → wpY_mark post (g_types, g_methods, g_place, g_result, g_linked, g_bad, g_high, g_refs, g_active, g_ticks, g_code, b_above, b_ownField, b_mType, b_mName, b_mLength, b_bytes, b_starts, b_seen, b_done, b_heights, b_local, b_sure, b_objType, b_objField, ym, b_global, b_fMethod, b_fPc, b_fHigh, b_fLocal, b_fEntry) (yR (rv f s)) := by
            cases hr : rv f s with
            | zero => exact ⟨ym, by rw [mk1_0]; exact h, fun post J => br_t (by rw [yR_0]; decide) J⟩
            | succ k =>
              refine ⟨upd ym k 1, YM_up h k, fun post J => ?_⟩
              rw [yR_s]
              refine br_f (nI_pos (by omega)) ⟨vp_in_nI (by omega) (by omega), nm_e ?_⟩
              rw [nI_clamp (by omega), gm_nb1]
              exact J
          obtain ⟨ym2, d1, d2⟩ := ih (f * 9 + s + 1) (by omega) ym' _ c1
          refine ⟨ym2, d1, fun post J => ?_⟩
          unfold wY_reached_43
          simp (disch := omega) only [nI_clamp, gm_clL, gm_in, gm_inL, gm_ml, gm_al, gm_la, gm_sl, nI_add, pk_mul, gm_eqL, gm_leL, gm_ltL, gm_Lle, gm_Llt, gm_eq, gm_le, gm_lt, gm_m1, forall_eq, true_and, Nat.not_lt_zero, Nat.add_sub_cancel, gm_z2, gm_z3, gm_z9, gm_z16, gm_z18, gm_z32, gm_z36, gm_z64, gm_z1152, not_true_eq_false, not_false_eq_true, false_implies, true_implies, and_true, implies_true, gm_dl, gm_sb, q1, q2, q3, e1, e2, e3, gm_bit0, b2]
          refine ⟨fun z => absurd z (by omega), fun _ => br_f hb ⟨fun _ => ⟨fun z => absurd z (by omega), fun _ => c2 _ (d2 post J)⟩, fun z => absurd h4 z⟩⟩
        · obtain ⟨ym', c1, c2⟩ := skip (hz s (by omega))
          refine ⟨ym', c1, fun post J => ?_⟩
          unfold wY_reached_43
          simp (disch := omega) only [nI_clamp, gm_clL, gm_in, gm_inL, gm_ml, gm_al, gm_la, gm_sl, nI_add, pk_mul, gm_eqL, gm_leL, gm_ltL, gm_Lle, gm_Llt, gm_eq, gm_le, gm_lt, gm_m1, forall_eq, true_and, Nat.not_lt_zero, Nat.add_sub_cancel, gm_z2, gm_z3, gm_z9, gm_z16, gm_z18, gm_z32, gm_z36, gm_z64, gm_z1152, not_true_eq_false, not_false_eq_true, false_implies, true_implies, and_true, implies_true, gm_dl, gm_sb, q1, q2, e1, e2, e3, gm_bit0]
          refine ⟨fun z => absurd z (by omega), fun _ => br_f hb ⟨fun _ => ⟨fun _ => c2 post J, fun z => absurd (by omega) z⟩, fun z => absurd h4 z⟩⟩
      · obtain ⟨a1, a2, a3⟩ := hs s (by omega)
        obtain ⟨b1, b2, b3⟩ := a2 (a1.mpr hb1)
        unfold ysl at b2
        rw [if_pos (by omega)] at b2
        obtain ⟨ym', c1, c2⟩ : ∃ ym', YM ym' (mk1 M (rv f s)) ∧ ∀ post : SY → Prop, post (g_types, g_methods, g_place, g_result, g_linked, g_bad, g_high, g_refs, g_active, g_ticks, g_code, b_above, b_ownField, b_mType, b_mName, b_mLength, b_bytes, b_starts, b_seen, b_done, b_heights, b_local, b_sure, b_objType, b_objField, ym', b_global, b_fMethod, b_fPc, b_fHigh, b_fLocal, b_fEntry) → wpY_mark post (g_types, g_methods, g_place, g_result, g_linked, g_bad, g_high, g_refs, g_active, g_ticks, g_code, b_above, b_ownField, b_mType, b_mName, b_mLength, b_bytes, b_starts, b_seen, b_done, b_heights, b_local, b_sure, b_objType, b_objField, ym, b_global, b_fMethod, b_fPc, b_fHigh, b_fLocal, b_fEntry) (yR (rv f s)) := by
          cases hr : rv f s with
          | zero => exact ⟨ym, by rw [mk1_0]; exact h, fun post J => br_t (by rw [yR_0]; decide) J⟩
          | succ k =>
            refine ⟨upd ym k 1, YM_up h k, fun post J => ?_⟩
            rw [yR_s]
            refine br_f (nI_pos (by omega)) ⟨vp_in_nI (by omega) (by omega), nm_e ?_⟩
            rw [nI_clamp (by omega), gm_nb1]
            exact J
        obtain ⟨ym2, d1, d2⟩ := ih (f * 9 + s + 1) (by omega) ym' _ c1
        refine ⟨ym2, d1, fun post J => ?_⟩
        unfold wY_reached_43
        simp (disch := omega) only [nI_clamp, gm_clL, gm_in, gm_inL, gm_ml, gm_al, gm_la, gm_sl, nI_add, pk_mul, gm_eqL, gm_leL, gm_ltL, gm_Lle, gm_Llt, gm_eq, gm_le, gm_lt, gm_m1, forall_eq, true_and, Nat.not_lt_zero, Nat.add_sub_cancel, gm_z2, gm_z3, gm_z9, gm_z16, gm_z18, gm_z32, gm_z36, gm_z64, gm_z1152, not_true_eq_false, not_false_eq_true, false_implies, true_implies, and_true, implies_true, gm_dl, gm_sb, q1, q2, e1, e2, e3, gm_bit0, b2]
        refine ⟨fun z => absurd z (by omega), fun _ => br_f hb ⟨fun z => absurd z h4, fun _ => c2 _ (d2 post J)⟩⟩
end
section
/-- the reference's side of the objects -/
def FdY (h tc : Nat) (rr : Nat → Nat → Nat) (fs yt yf : Nat → Int32) : Prop := ∀ o, o < h → ∃ t, t < tc ∧ yt o = nI t ∧ ∀ f, 8 ≤ f → f < 16 → yf (o * 16 + f) = yR (rr o f) ∧ (bt (fs t) f = false → rr o f = 0)
theorem ev_yr169 (g_types g_methods g_place g_result g_linked g_bad g_high g_refs g_active g_ticks g_code : Int32) (b_above b_ownField b_mType b_mName b_mLength b_bytes b_starts : Nat → Int32) (b_seen b_done : Nat → Int64) (b_heights b_local b_sure b_objType b_objField b_global b_fMethod b_fPc b_fHigh b_fLocal b_fEntry : Nat → Int32) {h tc mc : Nat} {rr : Nat → Nat → Nat} {fs fv mN mL by' : Nat → Int32} (F : FdOK h rr fv) (G : FdY h tc rr fs b_objType b_objField) (P : rl_P tc mc b_above fs b_ownField mN mL by') :
    ∀ d i, i + d = 160 → ∀ ym M, YM ym M → MI h M → ∃ ym', YM ym' (itr (fdG rr) d i M) ∧ ∀ post J (x2 : Nat), J (nI (x2 + 1)) g_types g_methods g_place g_result g_linked g_bad g_high g_refs g_active g_ticks g_code b_above b_ownField b_mType b_mName b_mLength b_bytes b_starts b_seen b_done b_heights b_local b_sure b_objType b_objField ym' b_global b_fMethod b_fPc b_fHigh b_fLocal b_fEntry → wY_reached_169 post J (nI x2) (d + 1) (nI i) g_types g_methods g_place g_result g_linked g_bad g_high g_refs g_active g_ticks g_code b_above b_ownField b_mType b_mName b_mLength b_bytes b_starts b_seen b_done b_heights b_local b_sure b_objType b_objField ym b_global b_fMethod b_fPc b_fHigh b_fLocal b_fEntry := by
  have h10 := F.1
  have h5 := P.1
  intro d
  induction d with
  | zero =>
    intro i hi ym M hY I
    cases (show i = 160 by omega)
    refine ⟨ym, hY, fun post J x2 j => ?_⟩
    unfold wY_reached_169
    exact br_t (by decide) (nm_r (nI_1 _) j)
  | succ d ih =>
    intro i hi ym M hY I
    obtain ⟨o, f, hf16, rfl⟩ : ∃ o f, f < 16 ∧ i = o * 16 + f := ⟨i / 16, i % 16, by omega, by omega⟩
    have q1 : (o * 16 + f) / 16 = o := by omega
    have q2 : o * 16 + f - o * 16 = f := by omega
    have hy := hY o (by omega)
    rw [itr_s, fdG_at rr hf16]
    cases hM : M o
    · rw [if_neg (fun z => by exact nomatch z.2)]
      obtain ⟨ym', c1, c2⟩ := ih (o * 16 + f + 1) (by omega) ym M hY I
      refine ⟨ym', c1, fun post J x2 j => ?_⟩
      rw [hM] at hy
      unfold wY_reached_169
      simp (disch := omega) only [nI_clamp, gm_clL, gm_in, gm_inL, gm_ml, gm_al, gm_la, gm_sl, nI_add, pk_mul, gm_eqL, gm_leL, gm_ltL, gm_Lle, gm_Llt, gm_eq, gm_le, gm_lt, gm_m1, forall_eq, true_and, Nat.not_lt_zero, Nat.add_sub_cancel, gm_z2, gm_z3, gm_z9, gm_z16, gm_z18, gm_z32, gm_z36, gm_z64, gm_z1152, not_true_eq_false, not_false_eq_true, false_implies, true_implies, and_true, implies_true, gm_dl, gm_sb, q1, q2]
      exact ⟨fun z => absurd z (by omega), fun _ => br_t hy (c2 post J x2 j)⟩
    · have ho := I o hM
      have hy1 : ¬ ym o = 0 := by rw [hy, hM]; decide
      by_cases h8 : 8 ≤ f
      · rw [if_pos ⟨h8, rfl⟩]
        obtain ⟨a1, a2⟩ := F.2 o ho f h8 hf16
        obtain ⟨t, ht, b1, b2⟩ := G o ho
        obtain ⟨b3, b4⟩ := b2 f h8 hf16
        cases hb : bt (fs t) f
        · rw [b4 hb, mk1_0]
          obtain ⟨ym', c1, c2⟩ := ih (o * 16 + f + 1) (by omega) ym M hY I
          refine ⟨ym', c1, fun post J x2 j => ?_⟩
          unfold wY_reached_169
          simp (disch := omega) only [nI_clamp, gm_clL, gm_in, gm_inL, gm_ml, gm_al, gm_la, gm_sl, nI_add, pk_mul, gm_eqL, gm_leL, gm_ltL, gm_Lle, gm_Llt, gm_eq, gm_le, gm_lt, gm_m1, forall_eq, true_and, Nat.not_lt_zero, Nat.add_sub_cancel, gm_z2, gm_z3, gm_z9, gm_z16, gm_z18, gm_z32, gm_z36, gm_z64, gm_z1152, not_true_eq_false, not_false_eq_true, false_implies, true_implies, and_true, implies_true, gm_dl, gm_sb, q1, q2, b1, b3]
          refine ⟨fun z => absurd z (by omega), fun _ => br_f hy1 ⟨fun z => absurd z (by omega), fun _ => ev_yhas g_types g_methods g_place g_result g_linked g_bad g_high g_refs g_active g_ticks g_code b_above b_ownField b_mType b_mName b_mLength b_bytes b_starts b_seen b_done b_heights b_local b_sure b_objType b_objField ym b_global b_fMethod b_fPc b_fHigh b_fLocal b_fEntry P hf16 ht ?_⟩⟩
          rw [hb]
          exact br_t rfl (c2 post J x2 j)
        · obtain ⟨ym1, c1, c2⟩ : ∃ ym', YM ym' (mk1 M (rr o f)) ∧ ∀ post : SY → Prop, post (g_types, g_methods, g_place, g_result, g_linked, g_bad, g_high, g_refs, g_active, g_ticks, g_code, b_above, b_ownField, b_mType, b_mName, b_mLength, b_bytes, b_starts, b_seen, b_done, b_heights, b_local, b_sure, b_objType, b_objField, ym', b_global, b_fMethod, b_fPc, b_fHigh, b_fLocal, b_fEntry) → wpY_mark post (g_types, g_methods, g_place, g_result, g_linked, g_bad, g_high, g_refs, g_active, g_ticks, g_code, b_above, b_ownField, b_mType, b_mName, b_mLength, b_bytes, b_starts, b_seen, b_done, b_heights, b_local, b_sure, b_objType, b_objField, ym, b_global, b_fMethod, b_fPc, b_fHigh, b_fLocal, b_fEntry) (yR (rr o f)) := by
            cases hr : rr o f with
            | zero => exact ⟨ym, by rw [mk1_0]; exact hY, fun post J => br_t (by rw [yR_0]; decide) J⟩
            | succ k =>
              refine ⟨upd ym k 1, YM_up hY k, fun post J => ?_⟩
              rw [yR_s]
              refine br_f (nI_pos (by omega)) ⟨vp_in_nI (by omega) (by omega), nm_e ?_⟩
              rw [nI_clamp (by omega), gm_nb1]
              exact J
          obtain ⟨ym2, d1, d2⟩ := ih (o * 16 + f + 1) (by omega) ym1 _ c1 (MI_mk1 I a1)
          refine ⟨ym2, d1, fun post J x2 j => ?_⟩
          unfold wY_reached_169
          simp (disch := omega) only [nI_clamp, gm_clL, gm_in, gm_inL, gm_ml, gm_al, gm_la, gm_sl, nI_add, pk_mul, gm_eqL, gm_leL, gm_ltL, gm_Lle, gm_Llt, gm_eq, gm_le, gm_lt, gm_m1, forall_eq, true_and, Nat.not_lt_zero, Nat.add_sub_cancel, gm_z2, gm_z3, gm_z9, gm_z16, gm_z18, gm_z32, gm_z36, gm_z64, gm_z1152, not_true_eq_false, not_false_eq_true, false_implies, true_implies, and_true, implies_true, gm_dl, gm_sb, q1, q2, b1, b3]
          refine ⟨fun z => absurd z (by omega), fun _ => br_f hy1 ⟨fun z => absurd z (by omega), fun _ => ev_yhas g_types g_methods g_place g_result g_linked g_bad g_high g_refs g_active g_ticks g_code b_above b_ownField b_mType b_mName b_mLength b_bytes b_starts b_seen b_done b_heights b_local b_sure b_objType b_objField ym b_global b_fMethod b_fPc b_fHigh b_fLocal b_fEntry P hf16 ht ?_⟩⟩
          rw [hb]
          exact br_f (by decide) (c2 _ (d2 post J x2 j))
      · rw [if_neg (fun z => h8 z.1)]
        obtain ⟨ym', c1, c2⟩ := ih (o * 16 + f + 1) (by omega) ym M hY I
        refine ⟨ym', c1, fun post J x2 j => ?_⟩
        unfold wY_reached_169
        simp (disch := omega) only [nI_clamp, gm_clL, gm_in, gm_inL, gm_ml, gm_al, gm_la, gm_sl, nI_add, pk_mul, gm_eqL, gm_leL, gm_ltL, gm_Lle, gm_Llt, gm_eq, gm_le, gm_lt, gm_m1, forall_eq, true_and, Nat.not_lt_zero, Nat.add_sub_cancel, gm_z2, gm_z3, gm_z9, gm_z16, gm_z18, gm_z32, gm_z36, gm_z64, gm_z1152, not_true_eq_false, not_false_eq_true, false_implies, true_implies, and_true, implies_true, gm_dl, gm_sb, q1, q2]
        exact ⟨fun z => absurd z (by omega), fun _ => br_f hy1 ⟨fun _ => c2 post J x2 j, fun z => absurd (by omega) z⟩⟩
theorem ev_yr243 (g_types g_methods g_place g_result g_linked g_bad g_high g_refs g_active g_ticks g_code : Int32) (b_above b_ownField b_mType b_mName b_mLength b_bytes b_starts : Nat → Int32) (b_seen b_done : Nat → Int64) (b_heights b_local b_sure b_objType b_objField b_marked b_global b_fMethod b_fPc b_fHigh b_fLocal b_fEntry : Nat → Int32) {post : Int32 → SY → Prop} {M : Nat → Bool} (hY : YM b_marked M) (J : post (nI (cb M 10)) (g_types, g_methods, g_place, g_result, g_linked, g_bad, g_high, g_refs, g_active, g_ticks, g_code, b_above, b_ownField, b_mType, b_mName, b_mLength, b_bytes, b_starts, b_seen, b_done, b_heights, b_local, b_sure, b_objType, b_objField, b_marked, b_global, b_fMethod, b_fPc, b_fHigh, b_fLocal, b_fEntry)) : ∀ d j, j + d = 10 → wY_reached_243 post g_types g_methods g_place g_result g_linked g_bad g_high g_refs g_active g_ticks g_code b_above b_ownField b_mType b_mName b_mLength b_bytes b_starts b_seen b_done b_heights b_local b_sure b_objType b_objField b_marked b_global b_fMethod b_fPc b_fHigh b_fLocal b_fEntry (d + 1) (nI (cb M j)) (nI j) := by
  intro d
  induction d with
  | zero =>
    intro j hj
    cases (show j = 10 by omega)
    unfold wY_reached_243
    exact br_t (by decide) J
  | succ d ih =>
    intro j hj
    have hx := hY j (by omega)
    have hc := cb_le M j
    have h2 := ih (j + 1) (by omega)
    unfold cb at h2
    unfold wY_reached_243
    simp (disch := omega) only [nI_clamp, gm_clL, gm_in, gm_inL, gm_ml, gm_al, gm_la, gm_sl, nI_add, pk_mul, gm_eqL, gm_leL, gm_ltL, gm_Lle, gm_Llt, gm_eq, gm_le, gm_lt, gm_m1, forall_eq, true_and, Nat.not_lt_zero, Nat.add_sub_cancel, gm_z2, gm_z3, gm_z9, gm_z16, gm_z18, gm_z32, gm_z36, gm_z64, gm_z1152, not_true_eq_false, not_false_eq_true, false_implies, true_implies, and_true, implies_true]
    refine ⟨fun z => absurd z (by omega), fun _ => ?_⟩
    cases hM : M j
    · rw [hM] at hx h2
      exact br_t hx h2
    · rw [hM] at hx h2
      exact br_f (by rw [hx]; decide) h2
theorem ev_yr161 (g_types g_methods g_place g_result g_linked g_bad g_high g_refs g_active g_ticks g_code : Int32) (b_above b_ownField b_mType b_mName b_mLength b_bytes b_starts : Nat → Int32) (b_seen b_done : Nat → Int64) (b_heights b_local b_sure b_objType b_objField b_global b_fMethod b_fPc b_fHigh b_fLocal b_fEntry : Nat → Int32) {h tc mc : Nat} {rr : Nat → Nat → Nat} {fs fv mN mL by' : Nat → Int32} (F : FdOK h rr fv) (G : FdY h tc rr fs b_objType b_objField) (P : rl_P tc mc b_above fs b_ownField mN mL by') :
    ∀ d x, x + d = 10 → ∀ ym M, YM ym M → MI h M → ∃ ym', YM ym' (itr (fun _ => itr (fdG rr) 160 0) d x M) ∧ ∀ post : Int32 → SY → Prop, post (nI (cb (itr (fun _ => itr (fdG rr) 160 0) d x M) 10)) (g_types, g_methods, g_place, g_result, g_linked, g_bad, g_high, g_refs, g_active, g_ticks, g_code, b_above, b_ownField, b_mType, b_mName, b_mLength, b_bytes, b_starts, b_seen, b_done, b_heights, b_local, b_sure, b_objType, b_objField, ym', b_global, b_fMethod, b_fPc, b_fHigh, b_fLocal, b_fEntry) → wY_reached_161 post (d + 1) (nI x) g_types g_methods g_place g_result g_linked g_bad g_high g_refs g_active g_ticks g_code b_above b_ownField b_mType b_mName b_mLength b_bytes b_starts b_seen b_done b_heights b_local b_sure b_objType b_objField ym b_global b_fMethod b_fPc b_fHigh b_fLocal b_fEntry := by
  intro d
  induction d with
  | zero =>
    intro x hx ym M hY I
    cases (show x = 10 by omega)
    refine ⟨ym, hY, fun post j => ?_⟩
    unfold wY_reached_161
    exact br_t (by decide) ⟨11, ev_yr243 g_types g_methods g_place g_result g_linked g_bad g_high g_refs g_active g_ticks g_code b_above b_ownField b_mType b_mName b_mLength b_bytes b_starts b_seen b_done b_heights b_local b_sure b_objType b_objField ym b_global b_fMethod b_fPc b_fHigh b_fLocal b_fEntry hY j 10 0 rfl⟩
  | succ d ih =>
    intro x hx ym M hY I
    obtain ⟨ym1, c1, c2⟩ := ev_yr169 g_types g_methods g_place g_result g_linked g_bad g_high g_refs g_active g_ticks g_code b_above b_ownField b_mType b_mName b_mLength b_bytes b_starts b_seen b_done b_heights b_local b_sure b_objType b_objField b_global b_fMethod b_fPc b_fHigh b_fLocal b_fEntry F G P 160 0 rfl ym M hY I
    have I1 : MI h (itr (fdG rr) 160 0 M) := itr_inv _ (MI h) _ _ _ (fun i _ _ s => MI_fdG (fun o ho f h8 h16 => (F.2 o ho f h8 h16).1) i) I
    obtain ⟨ym2, d1, d2⟩ := ih (x + 1) (by omega) ym1 _ c1 I1
    refine ⟨ym2, d1, fun post j => ?_⟩
    unfold wY_reached_161
    exact br_f (nI_ge (b := 10) (by omega) (by decide)) ⟨161, c2 post _ x (d2 post j)⟩
theorem ev_yr2 (g_types g_methods g_place g_result g_linked g_bad g_high g_refs g_active g_ticks g_code : Int32) (b_above b_ownField b_mType b_mName b_mLength b_bytes b_starts : Nat → Int32) (b_seen b_done : Nat → Int64) (b_heights b_local b_sure b_objType b_objField b_global b_fMethod b_fPc b_fHigh b_fLocal b_fEntry : Nat → Int32) (x1 : Int32) : ∀ d j, j + d = 10 → ∀ ym : Nat → Int32, (∀ o, o < j → ym o = 0) → ∃ ym' : Nat → Int32, (∀ o, o < 10 → ym' o = 0) ∧ ∀ post, wY_reached_2 post x1 g_types g_methods g_place g_result g_linked g_bad g_high g_refs g_active g_ticks g_code 1 (nI 10) b_above b_ownField b_mType b_mName b_mLength b_bytes b_starts b_seen b_done b_heights b_local b_sure b_objType b_objField ym' b_global b_fMethod b_fPc b_fHigh b_fLocal b_fEntry → wY_reached_2 post x1 g_types g_methods g_place g_result g_linked g_bad g_high g_refs g_active g_ticks g_code (d + 1) (nI j) b_above b_ownField b_mType b_mName b_mLength b_bytes b_starts b_seen b_done b_heights b_local b_sure b_objType b_objField ym b_global b_fMethod b_fPc b_fHigh b_fLocal b_fEntry := by
  intro d
  induction d with
  | zero =>
    intro j hj ym hY
    cases (show j = 10 by omega)
    exact ⟨ym, hY, fun post J => J⟩
  | succ d ih =>
    intro j hj ym hY
    obtain ⟨ym', c1, c2⟩ := ih (j + 1) (by omega) (upd ym j 0) (fun o ho => by
      by_cases e : o = j
      · subst e; exact pk_us
      · rw [pk_un e]; exact hY o (by omega))
    refine ⟨ym', c1, fun post J => ?_⟩
    unfold wY_reached_2
    simp (disch := omega) only [nI_clamp, gm_clL, gm_in, gm_inL, gm_ml, gm_al, gm_la, gm_sl, nI_add, pk_mul, gm_eqL, gm_leL, gm_ltL, gm_Lle, gm_Llt, gm_eq, gm_le, gm_lt, gm_m1, forall_eq, true_and, Nat.not_lt_zero, Nat.add_sub_cancel, gm_z2, gm_z3, gm_z9, gm_z16, gm_z18, gm_z32, gm_z36, gm_z64, gm_z1152, not_true_eq_false, not_false_eq_true, false_implies, true_implies, and_true, implies_true, gm_nb0]
    exact ⟨fun z => absurd z (by omega), fun _ => c2 post J⟩
theorem ev_mkS (g_types g_methods g_place g_result g_linked g_bad g_high g_refs g_active g_ticks g_code : Int32) (b_above b_ownField b_mType b_mName b_mLength b_bytes b_starts : Nat → Int32) (b_seen b_done : Nat → Int64) (b_heights b_local b_sure b_objType b_objField b_global b_fMethod b_fPc b_fHigh b_fLocal b_fEntry : Nat → Int32) {r : Nat} {M : Nat → Bool} {ym : Nat → Int32} (hr : r ≤ 10) (hY : YM ym M) : ∃ ym', YM ym' (mk1 M r) ∧ ∀ post : SY → Prop, post (g_types, g_methods, g_place, g_result, g_linked, g_bad, g_high, g_refs, g_active, g_ticks, g_code, b_above, b_ownField, b_mType, b_mName, b_mLength, b_bytes, b_starts, b_seen, b_done, b_heights, b_local, b_sure, b_objType, b_objField, ym', b_global, b_fMethod, b_fPc, b_fHigh, b_fLocal, b_fEntry) → wpY_mark post (g_types, g_methods, g_place, g_result, g_linked, g_bad, g_high, g_refs, g_active, g_ticks, g_code, b_above, b_ownField, b_mType, b_mName, b_mLength, b_bytes, b_starts, b_seen, b_done, b_heights, b_local, b_sure, b_objType, b_objField, ym, b_global, b_fMethod, b_fPc, b_fHigh, b_fLocal, b_fEntry) (yR r) := by
  cases r with
  | zero => exact ⟨ym, by rw [mk1_0]; exact hY, fun post J => br_t (by rw [yR_0]; decide) J⟩
  | succ k =>
    refine ⟨upd ym k 1, YM_up hY k, fun post J => ?_⟩
    rw [yR_s]
    refine br_f (nI_pos (by omega)) ⟨vp_in_nI (by omega) (by omega), nm_e ?_⟩
    rw [nI_clamp (by omega), gm_nb1]
    exact J
/-- both sides' marks, counted -/
theorem ev_reached (g_types g_methods g_place g_result g_linked g_bad g_high g_refs g_active g_ticks g_code : Int32) (b_above b_ownField b_mType b_mName b_mLength b_bytes b_starts : Nat → Int32) (b_seen b_done : Nat → Int64) (b_heights b_local b_sure b_objType b_objField b_marked b_global b_fMethod b_fPc b_fHigh b_fLocal b_fEntry : Nat → Int32) {h tc mc n g0 g1 : Nat} {rr rv : Nat → Nat → Nat} {fs fv mN mL by' K fm fa fh sl : Nat → Int32} (F : FdOK h rr fv) (G : FdY h tc rr fs b_objType b_objField) (P : rl_P tc mc b_above fs b_ownField mN mL by')
    (hn : n ≤ 6) (R : RtOK n rv K b_sure fm fa fh sl b_fMethod b_fPc b_fHigh b_fLocal b_fEntry) (e0 : b_global 0 = yR g0) (e1 : b_global 1 = yR g1) (h0 : g0 ≤ h) (h1 : g1 ≤ h) (hr : ∀ f s, rv f s ≤ h) :
    ∃ ym', YM ym' (mfin g0 g1 rv rr n) ∧ ∀ post : Int32 → SY → Prop, post (nI (cb (mfin g0 g1 rv rr n) 10)) (g_types, g_methods, g_place, g_result, g_linked, g_bad, g_high, g_refs, g_active, g_ticks, g_code, b_above, b_ownField, b_mType, b_mName, b_mLength, b_bytes, b_starts, b_seen, b_done, b_heights, b_local, b_sure, b_objType, b_objField, ym', b_global, b_fMethod, b_fPc, b_fHigh, b_fLocal, b_fEntry) → wpY_reached post (g_types, g_methods, g_place, g_result, g_linked, g_bad, g_high, g_refs, g_active, g_ticks, g_code, b_above, b_ownField, b_mType, b_mName, b_mLength, b_bytes, b_starts, b_seen, b_done, b_heights, b_local, b_sure, b_objType, b_objField, b_marked, b_global, b_fMethod, b_fPc, b_fHigh, b_fLocal, b_fEntry) (nI n) := by
  have h10 := F.1
  obtain ⟨ym1, a1, a2⟩ := ev_yr2 g_types g_methods g_place g_result g_linked g_bad g_high g_refs g_active g_ticks g_code b_above b_ownField b_mType b_mName b_mLength b_bytes b_starts b_seen b_done b_heights b_local b_sure b_objType b_objField b_global b_fMethod b_fPc b_fHigh b_fLocal b_fEntry (nI n) 10 0 rfl b_marked (fun o z => absurd z (by omega))
  have b1 : YM ym1 M00 := fun o ho => a1 o ho
  obtain ⟨ym2, c1, c2⟩ := ev_mkS g_types g_methods g_place g_result g_linked g_bad g_high g_refs g_active g_ticks g_code b_above b_ownField b_mType b_mName b_mLength b_bytes b_starts b_seen b_done b_heights b_local b_sure b_objType b_objField b_global b_fMethod b_fPc b_fHigh b_fLocal b_fEntry (r := g0) (by omega) b1
  obtain ⟨ym3, d1, d2⟩ := ev_mkS g_types g_methods g_place g_result g_linked g_bad g_high g_refs g_active g_ticks g_code b_above b_ownField b_mType b_mName b_mLength b_bytes b_starts b_seen b_done b_heights b_local b_sure b_objType b_objField b_global b_fMethod b_fPc b_fHigh b_fLocal b_fEntry (r := g1) (by omega) c1
  obtain ⟨ym4, f1, f2⟩ := ev_yr43 g_types g_methods g_place g_result g_linked g_bad g_high g_refs g_active g_ticks g_code b_above b_ownField b_mType b_mName b_mLength b_bytes b_starts b_seen b_done b_heights b_local b_sure b_objType b_objField b_global b_fMethod b_fPc b_fHigh b_fLocal b_fEntry hn R (n * 9) 0 (by omega) _ _ d1
  obtain ⟨ym5, k1, k2⟩ := ev_yr161 g_types g_methods g_place g_result g_linked g_bad g_high g_refs g_active g_ticks g_code b_above b_ownField b_mType b_mName b_mLength b_bytes b_starts b_seen b_done b_heights b_local b_sure b_objType b_objField b_global b_fMethod b_fPc b_fHigh b_fLocal b_fEntry F G P 10 0 rfl _ _ f1 (MI_fin F h0 h1 hr).1
  refine ⟨ym5, k1, fun post J => ⟨11, a2 post ?_⟩⟩
  unfold wY_reached_2
  refine br_t (by decide) ?_
  rw [e0]
  refine c2 _ ?_
  dsimp only
  rw [e1]
  exact d2 _ ⟨n * 9 + 1, f2 post ⟨11, k2 post J⟩⟩
theorem ev_xmark (f_typeCount f_methodCount f_linked f_faultPlace f_flowHeight f_ticksLeft f_outcome f_latestResult : Int32) (a_typeAbove a_fieldSet a_methodType a_methodName a_codeLength a_bytes a_isStart a_heightAt a_kindsAt a_isWaiting a_flowKinds a_globals a_objectType a_fieldValue a_isMarked a_frameMethod a_frameAt a_frameHeight a_slots : Nat → Int32) {h n g0 g1 : Nat} {rv rr : Nat → Nat → Nat} {su ym yp yh yl ye : Nat → Int32} (F : FdOK h rr a_fieldValue) (hn : n ≤ 6) (R : RtOK n rv a_kindsAt su a_frameMethod a_frameAt a_frameHeight a_slots ym yp yh yl ye) (e0 : a_globals 0 = nI g0) (e1 : a_globals 1 = nI g1) (h0 : g0 ≤ h) (h1 : g1 ≤ h) (hr : ∀ f s, rv f s ≤ h) :
    ∃ xm', XM xm' (mfin g0 g1 rv rr n) ∧ (∀ post : SX → Prop, post (f_typeCount, f_methodCount, f_linked, f_faultPlace, f_flowHeight, nI n, f_ticksLeft, f_outcome, f_latestResult, a_typeAbove, a_fieldSet, a_methodType, a_methodName, a_codeLength, a_bytes, a_isStart, a_heightAt, a_kindsAt, a_isWaiting, a_flowKinds, a_globals, a_objectType, a_fieldValue, xm', a_frameMethod, a_frameAt, a_frameHeight, a_slots) → wpX_markRoots (fun u => wpX_markFields post u) (f_typeCount, f_methodCount, f_linked, f_faultPlace, f_flowHeight, nI n, f_ticksLeft, f_outcome, f_latestResult, a_typeAbove, a_fieldSet, a_methodType, a_methodName, a_codeLength, a_bytes, a_isStart, a_heightAt, a_kindsAt, a_isWaiting, a_flowKinds, a_globals, a_objectType, a_fieldValue, a_isMarked, a_frameMethod, a_frameAt, a_frameHeight, a_slots)) := by
  have h10 := F.1
  obtain ⟨xm1, a1, a2⟩ := ev_markRoots f_typeCount f_methodCount f_linked f_faultPlace f_flowHeight f_ticksLeft f_outcome f_latestResult a_typeAbove a_fieldSet a_methodType a_methodName a_codeLength a_bytes a_isStart a_heightAt a_kindsAt a_isWaiting a_flowKinds a_globals a_objectType a_fieldValue a_isMarked a_frameMethod a_frameAt a_frameHeight a_slots hn R e0 e1 (by omega) (by omega)
  obtain ⟨xm2, b1, b2⟩ := ev_mf2 f_typeCount f_methodCount f_linked f_faultPlace f_flowHeight (nI n) f_ticksLeft f_outcome f_latestResult a_typeAbove a_fieldSet a_methodType a_methodName a_codeLength a_bytes a_isStart a_heightAt a_kindsAt a_isWaiting a_flowKinds a_globals a_objectType a_fieldValue a_frameMethod a_frameAt a_frameHeight a_slots F 10 0 rfl _ _ a1 (MI_fin F h0 h1 hr).1
  exact ⟨xm2, b1, fun post J => a2 _ ⟨11, b2 post J⟩⟩
/-- from the relation on the heap -/
theorem hp_F {h tc : Nat} {fs gl ot fv yg yt yf : Nat → Int32} (H : rl_H h tc fs gl ot fv yg yt yf) : FdOK h (fun o f => gm_n (fv ((o + 1) * 16 + f))) fv ∧ FdY h tc (fun o f => gm_n (fv ((o + 1) * 16 + f))) fs yt yf ∧ ∃ g0 g1, g0 ≤ h ∧ g1 ≤ h ∧ gl 0 = nI g0 ∧ gl 1 = nI g1 ∧ yg 0 = yR g0 ∧ yg 1 = yR g1 := by
  obtain ⟨h10, hg, ho⟩ := H
  refine ⟨⟨h10, fun o h f h8 h16 => ?_⟩, fun o h => ?_, ?_⟩
  · obtain ⟨t, ht, t1, t2, f1, f2⟩ := ho o h
    obtain ⟨r, hr, q1, q2, q3⟩ := f2 f h8 h16
    dsimp only
    rw [q1, gp_nI (by omega)]
    exact ⟨hr, rfl⟩
  · obtain ⟨t, ht, t1, t2, f1, f2⟩ := ho o h
    refine ⟨t, ht, t2, fun f h8 h16 => ?_⟩
    obtain ⟨r, hr, q1, q2, q3⟩ := f2 f h8 h16
    dsimp only
    rw [q1, gp_nI (by omega)]
    exact ⟨q2, q3⟩
  · obtain ⟨r0, hr0, a0, b0⟩ := hg 0 (by omega)
    obtain ⟨r1, hr1, a1, b1⟩ := hg 1 (by omega)
    exact ⟨r0, r1, hr0, hr1, a0, a1, b0, b1⟩
theorem i_vc_reachable {k : Nat} {u : SX} {v : SY} (I : i_Rel k u v) (hk : k + 4 ≤ 2048) : wpX_reachable (fun r u' => wpY_reachable (fun r' v' => r' = r ∧ i_Rel (k + 4) u' v') v) u := by
  obtain ⟨f_typeCount, f_methodCount, f_linked, f_faultPlace, f_flowHeight, f_active, f_ticksLeft, f_outcome, f_latestResult, a_typeAbove, a_fieldSet, a_methodType, a_methodName, a_codeLength, a_bytes, a_isStart, a_heightAt, a_kindsAt, a_isWaiting, a_flowKinds, a_globals, a_objectType, a_fieldValue, a_isMarked, a_frameMethod, a_frameAt, a_frameHeight, a_slots⟩ := u
  obtain ⟨g_types, g_methods, g_place, g_result, g_linked, g_bad, g_high, g_refs, g_active, g_ticks, g_code, b_above, b_ownField, b_mType, b_mName, b_mLength, b_bytes, b_starts, b_seen, b_done, b_heights, b_local, b_sure, b_objType, b_objField, b_marked, b_global, b_fMethod, b_fPc, b_fHigh, b_fLocal, b_fEntry⟩ := v
  obtain ⟨tc, mc, h, rfl, rfl, rfl, rfl, rfl, hl, rfl, hfp, rfl, rfl, rfl, rfl, rfl, rfl, rfl, P, KB, H, hh, hL⟩ := I
  obtain ⟨F, G, g0, g1, h0, h1, e0, e1, y0, y1⟩ := hp_F H
  have R : RtOK 0 (fun _ _ => 0) a_kindsAt b_sure a_frameMethod a_frameAt a_frameHeight a_slots b_fMethod b_fPc b_fHigh b_fLocal b_fEntry := fun f z => absurd z (by omega)
  obtain ⟨xm, a1, a2⟩ := ev_xmark (nI tc) (nI mc) f_linked f_faultPlace f_flowHeight f_ticksLeft f_outcome f_latestResult a_typeAbove a_fieldSet a_methodType a_methodName a_codeLength a_bytes a_isStart a_heightAt a_kindsAt a_isWaiting a_flowKinds a_globals a_objectType a_fieldValue a_isMarked a_frameMethod a_frameAt a_frameHeight a_slots F (by omega) R e0 e1 h0 h1 (fun _ _ => by omega)
  obtain ⟨ym, b1, b2⟩ := ev_reached (nI tc) (nI mc) f_faultPlace f_latestResult f_linked g_bad g_high g_refs g_active g_ticks g_code a_typeAbove b_ownField a_methodType a_methodName a_codeLength a_bytes b_starts b_seen b_done b_heights b_local b_sure b_objType b_objField b_marked b_global b_fMethod b_fPc b_fHigh b_fLocal b_fEntry F G P (by omega) R y0 y1 h0 h1 (fun _ _ => by omega)
  unfold wpX_reachable
  refine a2 _ (ev_countMarked (nI tc) (nI mc) f_linked f_faultPlace f_flowHeight 0 f_ticksLeft f_outcome f_latestResult a_typeAbove a_fieldSet a_methodType a_methodName a_codeLength a_bytes a_isStart a_heightAt a_kindsAt a_isWaiting a_flowKinds a_globals a_objectType a_fieldValue xm a_frameMethod a_frameAt a_frameHeight a_slots a1 ?_)
  unfold wpY_reachable
  exact b2 _ ⟨rfl, tc, mc, h, rfl, rfl, rfl, rfl, rfl, hl, rfl, hfp, rfl, rfl, rfl, rfl, rfl, rfl, rfl, P, KB, H, hh, hL⟩
end
section
theorem ev_al63 (f_typeCount f_methodCount f_linked f_faultPlace f_flowHeight f_active f_ticksLeft f_outcome f_latestResult : Int32) (a_typeAbove a_fieldSet a_methodType a_methodName a_codeLength a_bytes a_isStart a_heightAt a_kindsAt a_isWaiting a_flowKinds a_globals a_objectType a_isMarked a_frameMethod a_frameAt a_frameHeight a_slots : Nat → Int32) {l : Nat} (hl : l < 10) : ∀ d j, j + d = 16 → ∀ fv : Nat → Int32, ∃ fv' : Nat → Int32, (∀ i, i < (l + 1) * 16 + j ∨ (l + 1) * 16 + 16 ≤ i → fv' i = fv i) ∧ (∀ f, j ≤ f → f < 16 → fv' ((l + 1) * 16 + f) = 0) ∧ ∀ post : Int32 → SX → Prop, post (nI (l + 1)) (f_typeCount, f_methodCount, f_linked, f_faultPlace, f_flowHeight, f_active, f_ticksLeft, f_outcome, f_latestResult, a_typeAbove, a_fieldSet, a_methodType, a_methodName, a_codeLength, a_bytes, a_isStart, a_heightAt, a_kindsAt, a_isWaiting, a_flowKinds, a_globals, a_objectType, fv', a_isMarked, a_frameMethod, a_frameAt, a_frameHeight, a_slots) → wX_allocate_63 post (nI (l + 1)) f_typeCount f_methodCount f_linked f_faultPlace f_flowHeight f_active f_ticksLeft f_outcome f_latestResult (d + 1) (nI j) a_typeAbove a_fieldSet a_methodType a_methodName a_codeLength a_bytes a_isStart a_heightAt a_kindsAt a_isWaiting a_flowKinds a_globals a_objectType fv a_isMarked a_frameMethod a_frameAt a_frameHeight a_slots := by
  intro d
  induction d with
  | zero =>
    intro j hj fv
    cases (show j = 16 by omega)
    refine ⟨fv, fun _ _ => rfl, fun f h1 h2 => absurd h2 (by omega), fun post J => ?_⟩
    unfold wX_allocate_63
    exact br_t (by decide) J
  | succ d ih =>
    intro j hj fv
    obtain ⟨fv', h1, h2, h3⟩ := ih (j + 1) (by omega) (upd fv ((l + 1) * 16 + j) 0)
    refine ⟨fv', fun i hi => ?_, fun f hf hf2 => ?_, fun post J => ?_⟩
    · rw [h1 i (by omega), pk_un (by omega)]
    · by_cases e : f = j
      · subst e
        rw [h1 _ (by omega), pk_us]
      · exact h2 f (by omega) hf2
    · unfold wX_allocate_63
      simp (disch := omega) only [nI_clamp, gm_clL, gm_in, gm_inL, gm_ml, gm_al, gm_la, gm_sl, nI_add, pk_mul, gm_eqL, gm_leL, gm_ltL, gm_Lle, gm_Llt, gm_eq, gm_le, gm_lt, gm_m1, forall_eq, true_and, Nat.not_lt_zero, Nat.add_sub_cancel, gm_z2, gm_z3, gm_z9, gm_z16, gm_z18, gm_z32, gm_z36, gm_z64, gm_z1152, not_true_eq_false, not_false_eq_true, false_implies, true_implies, and_true, implies_true]
      exact ⟨fun z => absurd z (by omega), fun _ => h3 post J⟩
theorem ev_al23 (f_typeCount f_methodCount f_linked f_faultPlace f_flowHeight f_active f_ticksLeft f_outcome f_latestResult : Int32) (a_typeAbove a_fieldSet a_methodType a_methodName a_codeLength a_bytes a_isStart a_heightAt a_kindsAt a_isWaiting a_flowKinds a_globals a_objectType a_fieldValue a_isMarked a_frameMethod a_frameAt a_frameHeight a_slots : Nat → Int32) {l t : Nat} {M : Nat → Bool} {post : Int32 → SX → Prop} (hl : l < 10) (hX : XM a_isMarked M) (hM : M l = false) (hlt : ∀ o, o < l → M o = true) (J : ∃ n63, wX_allocate_63 post (nI (l + 1)) f_typeCount f_methodCount f_linked f_faultPlace f_flowHeight f_active f_ticksLeft f_outcome f_latestResult n63 0 a_typeAbove a_fieldSet a_methodType a_methodName a_codeLength a_bytes a_isStart a_heightAt a_kindsAt a_isWaiting a_flowKinds a_globals (upd a_objectType (l + 1) (nI t)) a_fieldValue a_isMarked a_frameMethod a_frameAt a_frameHeight a_slots) :
    ∀ d o, o + d = l → wX_allocate_23 post (nI t) f_typeCount f_methodCount f_linked f_faultPlace f_flowHeight f_active f_ticksLeft f_outcome f_latestResult a_typeAbove a_fieldSet a_methodType a_methodName a_codeLength a_bytes a_isStart a_heightAt a_kindsAt a_isWaiting a_flowKinds a_globals a_objectType a_fieldValue a_isMarked a_frameMethod a_frameAt a_frameHeight a_slots (d + 2) 0 (nI (o + 1)) := by
  intro d
  induction d with
  | zero =>
    intro o ho
    cases (show o = l by omega)
    have hx := hX l hl
    rw [hM] at hx
    have e : a_isMarked (l + 1) = 0 := hx
    unfold wX_allocate_23
    simp (disch := omega) only [nI_clamp, gm_clL, gm_in, gm_inL, gm_ml, gm_al, gm_la, gm_sl, nI_add, pk_mul, gm_eqL, gm_leL, gm_ltL, gm_Lle, gm_Llt, gm_eq, gm_le, gm_lt, gm_m1, forall_eq, true_and, Nat.not_lt_zero, Nat.add_sub_cancel, gm_z2, gm_z3, gm_z9, gm_z16, gm_z18, gm_z32, gm_z36, gm_z64, gm_z1152, not_true_eq_false, not_false_eq_true, false_implies, true_implies, and_true, implies_true, e]
    refine ⟨fun z => absurd z (by omega), fun _ => ?_⟩
    unfold wX_allocate_23
    simp (disch := omega) only [nI_clamp, gm_clL, gm_in, gm_inL, gm_ml, gm_al, gm_la, gm_sl, nI_add, pk_mul, gm_eqL, gm_leL, gm_ltL, gm_Lle, gm_Llt, gm_eq, gm_le, gm_lt, gm_m1, forall_eq, true_and, Nat.not_lt_zero, Nat.add_sub_cancel, gm_z2, gm_z3, gm_z9, gm_z16, gm_z18, gm_z32, gm_z36, gm_z64, gm_z1152, not_true_eq_false, not_false_eq_true, false_implies, true_implies, and_true, implies_true]
    refine ⟨fun _ => J, fun _ => ⟨fun z => absurd z (by omega), fun _ => J⟩⟩
  | succ d ih =>
    intro o ho
    have hx := hX o (by omega)
    rw [hlt o (by omega)] at hx
    have e : ¬ a_isMarked (o + 1) = 0 := by rw [hx]; decide
    unfold wX_allocate_23
    simp (disch := omega) only [nI_clamp, gm_clL, gm_in, gm_inL, gm_ml, gm_al, gm_la, gm_sl, nI_add, pk_mul, gm_eqL, gm_leL, gm_ltL, gm_Lle, gm_Llt, gm_eq, gm_le, gm_lt, gm_m1, forall_eq, true_and, Nat.not_lt_zero, Nat.add_sub_cancel, gm_z2, gm_z3, gm_z9, gm_z16, gm_z18, gm_z32, gm_z36, gm_z64, gm_z1152, not_true_eq_false, not_false_eq_true, false_implies, true_implies, and_true, implies_true, e]
    exact ⟨fun z => absurd z (by omega), fun _ => ih (o + 1) (by omega)⟩
theorem ev_mk51 (g_types g_methods g_place g_result g_linked g_bad g_high g_refs g_active g_ticks g_code : Int32) (b_above b_ownField b_mType b_mName b_mLength b_bytes b_starts : Nat → Int32) (b_seen b_done : Nat → Int64) (b_heights b_local b_sure b_objType b_marked b_global b_fMethod b_fPc b_fHigh b_fLocal b_fEntry : Nat → Int32) {l : Nat} (hl : l < 10) : ∀ d j, j + d = 16 → ∀ fv : Nat → Int32, ∃ fv' : Nat → Int32, (∀ i, i < l * 16 + j ∨ l * 16 + 16 ≤ i → fv' i = fv i) ∧ (∀ f, j ≤ f → f < 16 → fv' (l * 16 + f) = if f < 8 then 0 else -1) ∧ ∀ post : Int32 → SY → Prop, post (nI l) (g_types, g_methods, g_place, g_result, g_linked, g_bad, g_high, g_refs, g_active, g_ticks, g_code, b_above, b_ownField, b_mType, b_mName, b_mLength, b_bytes, b_starts, b_seen, b_done, b_heights, b_local, b_sure, b_objType, fv', b_marked, b_global, b_fMethod, b_fPc, b_fHigh, b_fLocal, b_fEntry) → wY_make_51 post (nI l) g_types g_methods g_place g_result g_linked g_bad g_high g_refs g_active g_ticks g_code (d + 1) (nI j) b_above b_ownField b_mType b_mName b_mLength b_bytes b_starts b_seen b_done b_heights b_local b_sure b_objType fv b_marked b_global b_fMethod b_fPc b_fHigh b_fLocal b_fEntry := by
  intro d
  induction d with
  | zero =>
    intro j hj fv
    cases (show j = 16 by omega)
    refine ⟨fv, fun _ _ => rfl, fun f h1 h2 => absurd h2 (by omega), fun post J => ?_⟩
    unfold wY_make_51
    exact br_t (by decide) J
  | succ d ih =>
    intro j hj fv
    obtain ⟨fv', h1, h2, h3⟩ := ih (j + 1) (by omega) (upd fv (l * 16 + j) (if j < 8 then 0 else -1))
    refine ⟨fv', fun i hi => ?_, fun f hf hf2 => ?_, fun post J => ?_⟩
    · rw [h1 i (by omega), pk_un (by omega)]
    · by_cases e : f = j
      · subst e
        rw [h1 _ (by omega), pk_us]
      · exact h2 f (by omega) hf2
    · have h4 := h3 post J
      unfold wY_make_51
      simp (disch := omega) only [nI_clamp, gm_clL, gm_in, gm_inL, gm_ml, gm_al, gm_la, gm_sl, nI_add, pk_mul, gm_eqL, gm_leL, gm_ltL, gm_Lle, gm_Llt, gm_eq, gm_le, gm_lt, gm_m1, forall_eq, true_and, Nat.not_lt_zero, Nat.add_sub_cancel, gm_z2, gm_z3, gm_z9, gm_z16, gm_z18, gm_z32, gm_z36, gm_z64, gm_z1152, not_true_eq_false, not_false_eq_true, false_implies, true_implies, and_true, implies_true]
      refine ⟨fun z => absurd z (by omega), fun _ => ⟨fun z => ?_, fun z => ?_⟩⟩
      · rw [if_neg (by omega)] at h4; exact h4
      · rw [if_pos (by omega)] at h4; exact h4
theorem ev_mk17 (g_types g_methods g_place g_result g_linked g_bad g_high g_refs g_active g_ticks g_code : Int32) (b_above b_ownField b_mType b_mName b_mLength b_bytes b_starts : Nat → Int32) (b_seen b_done : Nat → Int64) (b_heights b_local b_sure b_objType b_objField b_marked b_global b_fMethod b_fPc b_fHigh b_fLocal b_fEntry : Nat → Int32) {l t : Nat} {M : Nat → Bool} {post : Int32 → SY → Prop} (hl : l < 10) (hY : YM b_marked M) (hM : M l = false) (hlt : ∀ o, o < l → M o = true) (J : ∃ n51, wY_make_51 post (nI l) g_types g_methods g_place g_result g_linked g_bad g_high g_refs g_active g_ticks g_code n51 0 b_above b_ownField b_mType b_mName b_mLength b_bytes b_starts b_seen b_done b_heights b_local b_sure (upd b_objType l (nI t)) b_objField b_marked b_global b_fMethod b_fPc b_fHigh b_fLocal b_fEntry) :
    ∀ d o, o + d = l → wY_make_17 post (nI t) g_types g_methods g_place g_result g_linked g_bad g_high g_refs g_active g_ticks g_code b_above b_ownField b_mType b_mName b_mLength b_bytes b_starts b_seen b_done b_heights b_local b_sure b_objType b_objField b_marked b_global b_fMethod b_fPc b_fHigh b_fLocal b_fEntry (d + 1) (nI o) := by
  intro d
  induction d with
  | zero =>
    intro o ho
    cases (show o = l by omega)
    have hx := hY l hl
    rw [hM] at hx
    have e : b_marked l = 0 := hx
    unfold wY_make_17
    simp (disch := omega) only [nI_clamp, gm_clL, gm_in, gm_inL, gm_ml, gm_al, gm_la, gm_sl, nI_add, pk_mul, gm_eqL, gm_leL, gm_ltL, gm_Lle, gm_Llt, gm_eq, gm_le, gm_lt, gm_m1, forall_eq, true_and, Nat.not_lt_zero, Nat.add_sub_cancel, gm_z2, gm_z3, gm_z9, gm_z16, gm_z18, gm_z32, gm_z36, gm_z64, gm_z1152, not_true_eq_false, not_false_eq_true, false_implies, true_implies, and_true, implies_true, e]
    exact ⟨fun _ => J, fun _ => J⟩
  | succ d ih =>
    intro o ho
    have hx := hY o (by omega)
    rw [hlt o (by omega)] at hx
    have e : ¬ b_marked o = 0 := by rw [hx]; decide
    unfold wY_make_17
    simp (disch := omega) only [nI_clamp, gm_clL, gm_in, gm_inL, gm_ml, gm_al, gm_la, gm_sl, nI_add, pk_mul, gm_eqL, gm_leL, gm_ltL, gm_Lle, gm_Llt, gm_eq, gm_le, gm_lt, gm_m1, forall_eq, true_and, Nat.not_lt_zero, Nat.add_sub_cancel, gm_z2, gm_z3, gm_z9, gm_z16, gm_z18, gm_z32, gm_z36, gm_z64, gm_z1152, not_true_eq_false, not_false_eq_true, false_implies, true_implies, and_true, implies_true, e]
    exact ⟨fun z => absurd z (by omega), fun _ => ih (o + 1) (by omega)⟩
theorem rl_Ha {h tc t l : Nat} {fs gl ot fv yg yt yf fv' yf' : Nat → Int32} (H : rl_H h tc fs gl ot fv yg yt yf) (ht : t < tc) (hl : l < 10) (hlh : l ≤ h)
    (a1 : ∀ i, i < (l + 1) * 16 + 0 ∨ (l + 1) * 16 + 16 ≤ i → fv' i = fv i) (a2 : ∀ f, 0 ≤ f → f < 16 → fv' ((l + 1) * 16 + f) = 0) (b1 : ∀ i, i < l * 16 + 0 ∨ l * 16 + 16 ≤ i → yf' i = yf i) (b2 : ∀ f, 0 ≤ f → f < 16 → yf' (l * 16 + f) = if f < 8 then 0 else -1) :
    ∃ h', h ≤ h' ∧ l < h' ∧ rl_H h' tc fs gl (upd ot (l + 1) (nI t)) fv' yg (upd yt l (nI t)) yf' := by
  obtain ⟨h10, hg, ho⟩ := H
  refine ⟨if l = h then h + 1 else h, by split <;> omega, by split <;> omega, by split <;> omega, fun g hg2 => ?_, fun o hoh => ?_⟩
  · obtain ⟨r, hr, q⟩ := hg g hg2
    exact ⟨r, by split <;> omega, q⟩
  · by_cases e : o = l
    · subst e
      refine ⟨t, ht, pk_us, pk_us, fun f h8 => ?_, fun f h8 h16 => ⟨0, by omega, a2 f (by omega) h16, ?_, fun _ => rfl⟩⟩
      · rw [a2 f (by omega) (by omega), b2 f (by omega) (by omega), if_pos h8]
      · rw [b2 f (by omega) h16, if_neg (by omega), yR_0]
    · obtain ⟨t', ht', t1, t2, f1, f2⟩ := ho o (by split at hoh <;> omega)
      refine ⟨t', ht', by rw [pk_un (by omega)]; exact t1, by rw [pk_un e]; exact t2, fun f h8 => ?_, fun f h8 h16 => ?_⟩
      · rw [a1 _ (by omega), b1 _ (by omega)]
        exact f1 f h8
      · obtain ⟨r, hr, q1, q2, q3⟩ := f2 f h8 h16
        exact ⟨r, by split <;> omega, by rw [a1 _ (by omega)]; exact q1, by rw [b1 _ (by omega)]; exact q2, q3⟩
/-- a new object on both sides -/
theorem al_both (f_typeCount f_methodCount f_linked f_faultPlace f_flowHeight f_ticksLeft f_outcome f_latestResult : Int32) (a_typeAbove a_fieldSet a_methodType a_methodName a_codeLength a_bytes a_isStart a_heightAt a_kindsAt a_isWaiting a_flowKinds a_globals a_objectType a_fieldValue a_isMarked a_frameMethod a_frameAt a_frameHeight a_slots : Nat → Int32) (g_types g_methods g_place g_result g_linked g_bad g_high g_refs g_active g_ticks g_code : Int32) (b_above b_ownField b_mType b_mName b_mLength b_bytes b_starts : Nat → Int32) (b_seen b_done : Nat → Int64) (b_heights b_local b_sure b_objType b_objField b_marked b_global b_fMethod b_fPc b_fHigh b_fLocal b_fEntry : Nat → Int32) {h tc mc n t : Nat} {rv : Nat → Nat → Nat} {mN mL by' : Nat → Int32} (P : rl_P tc mc b_above a_fieldSet b_ownField mN mL by') (H : rl_H h tc a_fieldSet a_globals a_objectType a_fieldValue b_global b_objType b_objField)
    (hn : n ≤ 6) (R : RtOK n rv a_kindsAt b_sure a_frameMethod a_frameAt a_frameHeight a_slots b_fMethod b_fPc b_fHigh b_fLocal b_fEntry) (hr : ∀ f s, rv f s ≤ h) (ht : t < tc) :
    (∃ xm ym, (∀ post : Int32 → SX → Prop, post 0 (f_typeCount, f_methodCount, f_linked, f_faultPlace, f_flowHeight, nI n, f_ticksLeft, f_outcome, f_latestResult, a_typeAbove, a_fieldSet, a_methodType, a_methodName, a_codeLength, a_bytes, a_isStart, a_heightAt, a_kindsAt, a_isWaiting, a_flowKinds, a_globals, a_objectType, a_fieldValue, xm, a_frameMethod, a_frameAt, a_frameHeight, a_slots) → wpX_allocate post (f_typeCount, f_methodCount, f_linked, f_faultPlace, f_flowHeight, nI n, f_ticksLeft, f_outcome, f_latestResult, a_typeAbove, a_fieldSet, a_methodType, a_methodName, a_codeLength, a_bytes, a_isStart, a_heightAt, a_kindsAt, a_isWaiting, a_flowKinds, a_globals, a_objectType, a_fieldValue, a_isMarked, a_frameMethod, a_frameAt, a_frameHeight, a_slots) (nI t)) ∧ (∀ post : Int32 → SY → Prop, post (-1) (g_types, g_methods, g_place, g_result, g_linked, g_bad, g_high, g_refs, g_active, g_ticks, g_code, b_above, b_ownField, b_mType, b_mName, b_mLength, b_bytes, b_starts, b_seen, b_done, b_heights, b_local, b_sure, b_objType, b_objField, ym, b_global, b_fMethod, b_fPc, b_fHigh, b_fLocal, b_fEntry) → wpY_make post (g_types, g_methods, g_place, g_result, g_linked, g_bad, g_high, g_refs, g_active, g_ticks, g_code, b_above, b_ownField, b_mType, b_mName, b_mLength, b_bytes, b_starts, b_seen, b_done, b_heights, b_local, b_sure, b_objType, b_objField, b_marked, b_global, b_fMethod, b_fPc, b_fHigh, b_fLocal, b_fEntry) (nI t) (nI n))) ∨
    (∃ xm ym l h' ot fv yt yf, l < 10 ∧ h ≤ h' ∧ l < h' ∧ rl_H h' tc a_fieldSet a_globals ot fv b_global yt yf ∧ ot (l + 1) = nI t ∧ (∀ post : Int32 → SX → Prop, post (nI (l + 1)) (f_typeCount, f_methodCount, f_linked, f_faultPlace, f_flowHeight, nI n, f_ticksLeft, f_outcome, f_latestResult, a_typeAbove, a_fieldSet, a_methodType, a_methodName, a_codeLength, a_bytes, a_isStart, a_heightAt, a_kindsAt, a_isWaiting, a_flowKinds, a_globals, ot, fv, xm, a_frameMethod, a_frameAt, a_frameHeight, a_slots) → wpX_allocate post (f_typeCount, f_methodCount, f_linked, f_faultPlace, f_flowHeight, nI n, f_ticksLeft, f_outcome, f_latestResult, a_typeAbove, a_fieldSet, a_methodType, a_methodName, a_codeLength, a_bytes, a_isStart, a_heightAt, a_kindsAt, a_isWaiting, a_flowKinds, a_globals, a_objectType, a_fieldValue, a_isMarked, a_frameMethod, a_frameAt, a_frameHeight, a_slots) (nI t)) ∧ (∀ post : Int32 → SY → Prop, post (nI l) (g_types, g_methods, g_place, g_result, g_linked, g_bad, g_high, g_refs, g_active, g_ticks, g_code, b_above, b_ownField, b_mType, b_mName, b_mLength, b_bytes, b_starts, b_seen, b_done, b_heights, b_local, b_sure, yt, yf, ym, b_global, b_fMethod, b_fPc, b_fHigh, b_fLocal, b_fEntry) → wpY_make post (g_types, g_methods, g_place, g_result, g_linked, g_bad, g_high, g_refs, g_active, g_ticks, g_code, b_above, b_ownField, b_mType, b_mName, b_mLength, b_bytes, b_starts, b_seen, b_done, b_heights, b_local, b_sure, b_objType, b_objField, b_marked, b_global, b_fMethod, b_fPc, b_fHigh, b_fLocal, b_fEntry) (nI t) (nI n))) := by
  obtain ⟨F, G, g0, g1, h0, h1, e0, e1, y0, y1⟩ := hp_F H
  obtain ⟨xm, a1, a2⟩ := ev_xmark f_typeCount f_methodCount f_linked f_faultPlace f_flowHeight f_ticksLeft f_outcome f_latestResult a_typeAbove a_fieldSet a_methodType a_methodName a_codeLength a_bytes a_isStart a_heightAt a_kindsAt a_isWaiting a_flowKinds a_globals a_objectType a_fieldValue a_isMarked a_frameMethod a_frameAt a_frameHeight a_slots F hn R e0 e1 h0 h1 hr
  obtain ⟨ym, b1, b2⟩ := ev_reached g_types g_methods g_place g_result g_linked g_bad g_high g_refs g_active g_ticks g_code b_above b_ownField b_mType b_mName b_mLength b_bytes b_starts b_seen b_done b_heights b_local b_sure b_objType b_objField b_marked b_global b_fMethod b_fPc b_fHigh b_fLocal b_fEntry F G P hn R y0 y1 h0 h1 hr
  have hMI := (MI_fin (n := n) F h0 h1 hr).2
  generalize hfin : mfin g0 g1 rv (fun o f => gm_n (a_fieldValue ((o + 1) * 16 + f))) n = M at a1 b1 b2 hMI
  have hc := cb_le M 10
  by_cases hc10 : cb M 10 = 10
  · refine Or.inl ⟨xm, ym, fun post J => ?_, fun post J => ?_⟩
    · unfold wpX_allocate
      refine a2 _ (ev_countMarked f_typeCount f_methodCount f_linked f_faultPlace f_flowHeight (nI n) f_ticksLeft f_outcome f_latestResult a_typeAbove a_fieldSet a_methodType a_methodName a_codeLength a_bytes a_isStart a_heightAt a_kindsAt a_isWaiting a_flowKinds a_globals a_objectType a_fieldValue xm a_frameMethod a_frameAt a_frameHeight a_slots a1 (br_f ?_ J))
      rw [hc10]; decide
    · unfold wpY_make
      refine b2 _ (br_t ?_ J)
      rw [hc10]; rfl
  · obtain ⟨l, hl, hM, hlt⟩ := cb_lt (show cb M 10 < 10 by omega)
    have hlh : l ≤ h := by
      rcases Nat.lt_or_ge h l with z | z
      · exact absurd (hMI h (hlt h z)) (by omega)
      · exact z
    obtain ⟨fv', c1, c2, c3⟩ := ev_al63 f_typeCount f_methodCount f_linked f_faultPlace f_flowHeight (nI n) f_ticksLeft f_outcome f_latestResult a_typeAbove a_fieldSet a_methodType a_methodName a_codeLength a_bytes a_isStart a_heightAt a_kindsAt a_isWaiting a_flowKinds a_globals (upd a_objectType (l + 1) (nI t)) xm a_frameMethod a_frameAt a_frameHeight a_slots hl 16 0 rfl a_fieldValue
    obtain ⟨yf', d1, d2, d3⟩ := ev_mk51 g_types g_methods g_place g_result g_linked g_bad g_high g_refs g_active g_ticks g_code b_above b_ownField b_mType b_mName b_mLength b_bytes b_starts b_seen b_done b_heights b_local b_sure (upd b_objType l (nI t)) ym b_global b_fMethod b_fPc b_fHigh b_fLocal b_fEntry hl 16 0 rfl b_objField
    obtain ⟨h', k1, k2, k3⟩ := rl_Ha H ht hl hlh c1 c2 d1 d2
    refine Or.inr ⟨xm, ym, l, h', _, fv', _, yf', hl, k1, k2, k3, pk_us, fun post J => ?_, fun post J => ?_⟩
    · unfold wpX_allocate
      refine a2 _ (ev_countMarked f_typeCount f_methodCount f_linked f_faultPlace f_flowHeight (nI n) f_ticksLeft f_outcome f_latestResult a_typeAbove a_fieldSet a_methodType a_methodName a_codeLength a_bytes a_isStart a_heightAt a_kindsAt a_isWaiting a_flowKinds a_globals a_objectType a_fieldValue xm a_frameMethod a_frameAt a_frameHeight a_slots a1 (br_t (nI_lt (b := 10) (by omega) (by decide)) ⟨l + 2, ?_⟩))
      exact ev_al23 f_typeCount f_methodCount f_linked f_faultPlace f_flowHeight (nI n) f_ticksLeft f_outcome f_latestResult a_typeAbove a_fieldSet a_methodType a_methodName a_codeLength a_bytes a_isStart a_heightAt a_kindsAt a_isWaiting a_flowKinds a_globals a_objectType a_fieldValue xm a_frameMethod a_frameAt a_frameHeight a_slots hl a1 hM hlt ⟨17, c3 post J⟩ l 0 (by omega)
    · unfold wpY_make
      refine b2 _ (br_f (by rw [gm_eqL (by omega) (by omega)]; exact hc10) ⟨l + 1, ?_⟩)
      exact ev_mk17 g_types g_methods g_place g_result g_linked g_bad g_high g_refs g_active g_ticks g_code b_above b_ownField b_mType b_mName b_mLength b_bytes b_starts b_seen b_done b_heights b_local b_sure b_objType b_objField ym b_global b_fMethod b_fPc b_fHigh b_fLocal b_fEntry hl b1 hM hlt ⟨17, d3 post J⟩ l 0 (by omega)
end
section
/-! ===== sizes, operands ===== -/
theorem is_sgP {o : Nat} : is_sg o = true ↔ (3 ≤ o ∧ o ≤ 9 ∨ o = 12 ∨ o = 18) := by
  unfold is_sg
  simp
theorem ev_sizeOf {post : Int32 → Prop} {o : Nat} (ho : o < 256) (J : post (nI (is_sz o))) : wpX_sizeOf post (nI o) := by
  have e1 : (3 ≤ o ∧ o ≤ 9 ∨ o = 12 ∨ o = 18) → post 1 := fun h => by
    unfold is_sz at J
    rw [if_pos (is_sgP.mpr h)] at J
    exact J
  have e2 : ¬ (3 ≤ o ∧ o ≤ 9 ∨ o = 12 ∨ o = 18) → post 2 := fun h => by
    unfold is_sz at J
    rw [if_neg (fun z => h (is_sgP.mp z))] at J
    exact J
  unfold wpX_sizeOf wX_sizeOf_11 wX_sizeOf_23 wX_sizeOf_28
  simp (disch := omega) only [nI_clamp, gm_clL, gm_in, gm_inL, gm_ml, gm_al, gm_la, gm_sl, nI_add, pk_mul, gm_eqL, gm_leL, gm_ltL, gm_Lle, gm_Llt, gm_eq, gm_le, gm_lt, gm_m1, forall_eq, true_and, Nat.not_lt_zero, Nat.add_sub_cancel, gm_z2, gm_z3, gm_z9, gm_z16, gm_z18, gm_z32, gm_z36, gm_z64, gm_z1152, not_true_eq_false, not_false_eq_true, false_implies, true_implies, and_true, implies_true, gm_z1, Nat.reduceEqDiff, Nat.reduceLT, Nat.reduceLeDiff, Nat.reduceAdd, Nat.reduceMul, Nat.reduceSub]
  exact ⟨fun h => ⟨fun e => e1 (by omega), fun e => ⟨fun e => e1 (by omega), fun e => e2 (by omega)⟩⟩, fun h => ⟨fun e => e1 (by omega), fun h2 => ⟨fun e => e1 (by omega), fun e => ⟨fun e => e1 (by omega), fun e => e2 (by omega)⟩⟩⟩⟩
theorem ev_single {post : Int32 → Prop} {o : Nat} (ho : o < 256) (J : post (b01 (is_sg o))) : wpY_single post (nI o) := by
  have e1 : (3 ≤ o ∧ o ≤ 9 ∨ o = 12 ∨ o = 18) → post 1 := fun h => by
    rw [is_sgP.mpr h] at J
    exact J
  have e2 : ¬ (3 ≤ o ∧ o ≤ 9 ∨ o = 12 ∨ o = 18) → post 0 := fun h => by
    rw [show is_sg o = false from Bool.eq_false_iff.mpr (fun z => h (is_sgP.mp z))] at J
    exact J
  unfold wpY_single wY_single_11
  simp (disch := omega) only [nI_clamp, gm_clL, gm_in, gm_inL, gm_ml, gm_al, gm_la, gm_sl, nI_add, pk_mul, gm_eqL, gm_leL, gm_ltL, gm_Lle, gm_Llt, gm_eq, gm_le, gm_lt, gm_m1, forall_eq, true_and, Nat.not_lt_zero, Nat.add_sub_cancel, gm_z2, gm_z3, gm_z9, gm_z16, gm_z18, gm_z32, gm_z36, gm_z64, gm_z1152, not_true_eq_false, not_false_eq_true, false_implies, true_implies, and_true, implies_true, gm_z1, Nat.reduceEqDiff, Nat.reduceLT, Nat.reduceLeDiff, Nat.reduceAdd, Nat.reduceMul, Nat.reduceSub]
  exact ⟨fun h => ⟨fun e => e1 (by omega), fun e => ⟨fun e => e1 (by omega), fun e => e2 (by omega)⟩⟩, fun h => ⟨fun e => e1 (by omega), fun h2 => ⟨fun e => e1 (by omega), fun e => ⟨fun e => e1 (by omega), fun e => e2 (by omega)⟩⟩⟩⟩
theorem is_dbl : ∀ o, o < 21 → is_sg o = false → o = 0 ∨ o = 1 ∨ o = 2 ∨ o = 10 ∨ o = 11 ∨ o = 13 ∨ o = 14 ∨ o = 15 ∨ o = 16 ∨ o = 17 ∨ o = 19 ∨ o = 20 := by decide
theorem ev_opd (f_methodCount f_linked f_faultPlace f_flowHeight f_active f_ticksLeft f_outcome f_latestResult : Int32) (a_typeAbove a_fieldSet a_methodType a_methodName a_codeLength a_bytes a_isStart a_heightAt a_kindsAt a_isWaiting a_flowKinds a_globals a_objectType a_fieldValue a_isMarked a_frameMethod a_frameAt a_frameHeight a_slots : Nat → Int32) {post : Int32 → Prop} {o b tc : Nat} (ho : o < 21) (hs : is_sg o = false) (hb : b < 256) (ht : tc ≤ 5) (J1 : is_opd tc o b → post 1) (J0 : ¬ is_opd tc o b → post 0) : wpX_operandFits post (nI tc, f_methodCount, f_linked, f_faultPlace, f_flowHeight, f_active, f_ticksLeft, f_outcome, f_latestResult, a_typeAbove, a_fieldSet, a_methodType, a_methodName, a_codeLength, a_bytes, a_isStart, a_heightAt, a_kindsAt, a_isWaiting, a_flowKinds, a_globals, a_objectType, a_fieldValue, a_isMarked, a_frameMethod, a_frameAt, a_frameHeight, a_slots) (nI o) (nI b) := by
  unfold is_opd at J1 J0
  unfold wpX_operandFits wX_operandFits_96 wX_operandFits_117 wX_operandFits_107 wX_operandFits_112 wpX_isType wpX_isName wpX_isGlobal
  rcases is_dbl o ho hs with rfl | rfl | rfl | rfl | rfl | rfl | rfl | rfl | rfl | rfl | rfl | rfl
  · simp (disch := omega) only [nI_clamp, gm_clL, gm_in, gm_inL, gm_ml, gm_al, gm_la, gm_sl, nI_add, pk_mul, gm_eqL, gm_leL, gm_ltL, gm_Lle, gm_Llt, gm_eq, gm_le, gm_lt, gm_m1, forall_eq, true_and, Nat.not_lt_zero, Nat.add_sub_cancel, gm_z2, gm_z3, gm_z9, gm_z16, gm_z18, gm_z32, gm_z36, gm_z64, gm_z1152, not_true_eq_false, not_false_eq_true, false_implies, true_implies, and_true, implies_true, gm_z1, Nat.reduceEqDiff, Nat.reduceLT, Nat.reduceLeDiff, Nat.reduceAdd, Nat.reduceMul, Nat.reduceSub]; exact J1 (by omega)
  · simp (disch := omega) only [nI_clamp, gm_clL, gm_in, gm_inL, gm_ml, gm_al, gm_la, gm_sl, nI_add, pk_mul, gm_eqL, gm_leL, gm_ltL, gm_Lle, gm_Llt, gm_eq, gm_le, gm_lt, gm_m1, forall_eq, true_and, Nat.not_lt_zero, Nat.add_sub_cancel, gm_z2, gm_z3, gm_z9, gm_z16, gm_z18, gm_z32, gm_z36, gm_z64, gm_z1152, not_true_eq_false, not_false_eq_true, false_implies, true_implies, and_true, implies_true, gm_z1, Nat.reduceEqDiff, Nat.reduceLT, Nat.reduceLeDiff, Nat.reduceAdd, Nat.reduceMul, Nat.reduceSub]; exact ⟨fun h => J0 (by omega), fun h => J1 (by omega)⟩
  · simp (disch := omega) only [nI_clamp, gm_clL, gm_in, gm_inL, gm_ml, gm_al, gm_la, gm_sl, nI_add, pk_mul, gm_eqL, gm_leL, gm_ltL, gm_Lle, gm_Llt, gm_eq, gm_le, gm_lt, gm_m1, forall_eq, true_and, Nat.not_lt_zero, Nat.add_sub_cancel, gm_z2, gm_z3, gm_z9, gm_z16, gm_z18, gm_z32, gm_z36, gm_z64, gm_z1152, not_true_eq_false, not_false_eq_true, false_implies, true_implies, and_true, implies_true, gm_z1, Nat.reduceEqDiff, Nat.reduceLT, Nat.reduceLeDiff, Nat.reduceAdd, Nat.reduceMul, Nat.reduceSub]; exact ⟨fun h => J0 (by omega), fun h => J1 (by omega)⟩
  · simp (disch := omega) only [nI_clamp, gm_clL, gm_in, gm_inL, gm_ml, gm_al, gm_la, gm_sl, nI_add, pk_mul, gm_eqL, gm_leL, gm_ltL, gm_Lle, gm_Llt, gm_eq, gm_le, gm_lt, gm_m1, forall_eq, true_and, Nat.not_lt_zero, Nat.add_sub_cancel, gm_z2, gm_z3, gm_z9, gm_z16, gm_z18, gm_z32, gm_z36, gm_z64, gm_z1152, not_true_eq_false, not_false_eq_true, false_implies, true_implies, and_true, implies_true, gm_z1, Nat.reduceEqDiff, Nat.reduceLT, Nat.reduceLeDiff, Nat.reduceAdd, Nat.reduceMul, Nat.reduceSub]; exact J1 (by omega)
  · simp (disch := omega) only [nI_clamp, gm_clL, gm_in, gm_inL, gm_ml, gm_al, gm_la, gm_sl, nI_add, pk_mul, gm_eqL, gm_leL, gm_ltL, gm_Lle, gm_Llt, gm_eq, gm_le, gm_lt, gm_m1, forall_eq, true_and, Nat.not_lt_zero, Nat.add_sub_cancel, gm_z2, gm_z3, gm_z9, gm_z16, gm_z18, gm_z32, gm_z36, gm_z64, gm_z1152, not_true_eq_false, not_false_eq_true, false_implies, true_implies, and_true, implies_true, gm_z1, Nat.reduceEqDiff, Nat.reduceLT, Nat.reduceLeDiff, Nat.reduceAdd, Nat.reduceMul, Nat.reduceSub]; exact J1 (by omega)
  · simp (disch := omega) only [nI_clamp, gm_clL, gm_in, gm_inL, gm_ml, gm_al, gm_la, gm_sl, nI_add, pk_mul, gm_eqL, gm_leL, gm_ltL, gm_Lle, gm_Llt, gm_eq, gm_le, gm_lt, gm_m1, forall_eq, true_and, Nat.not_lt_zero, Nat.add_sub_cancel, gm_z2, gm_z3, gm_z9, gm_z16, gm_z18, gm_z32, gm_z36, gm_z64, gm_z1152, not_true_eq_false, not_false_eq_true, false_implies, true_implies, and_true, implies_true, gm_z1, Nat.reduceEqDiff, Nat.reduceLT, Nat.reduceLeDiff, Nat.reduceAdd, Nat.reduceMul, Nat.reduceSub]; exact ⟨fun h => ⟨rfl, J0 (by omega)⟩, fun h => ⟨rfl, J1 (by omega)⟩⟩
  · simp (disch := omega) only [nI_clamp, gm_clL, gm_in, gm_inL, gm_ml, gm_al, gm_la, gm_sl, nI_add, pk_mul, gm_eqL, gm_leL, gm_ltL, gm_Lle, gm_Llt, gm_eq, gm_le, gm_lt, gm_m1, forall_eq, true_and, Nat.not_lt_zero, Nat.add_sub_cancel, gm_z2, gm_z3, gm_z9, gm_z16, gm_z18, gm_z32, gm_z36, gm_z64, gm_z1152, not_true_eq_false, not_false_eq_true, false_implies, true_implies, and_true, implies_true, gm_z1, Nat.reduceEqDiff, Nat.reduceLT, Nat.reduceLeDiff, Nat.reduceAdd, Nat.reduceMul, Nat.reduceSub]; exact ⟨fun h => ⟨rfl, J0 (by omega)⟩, fun h => ⟨rfl, J1 (by omega)⟩⟩
  · simp (disch := omega) only [nI_clamp, gm_clL, gm_in, gm_inL, gm_ml, gm_al, gm_la, gm_sl, nI_add, pk_mul, gm_eqL, gm_leL, gm_ltL, gm_Lle, gm_Llt, gm_eq, gm_le, gm_lt, gm_m1, forall_eq, true_and, Nat.not_lt_zero, Nat.add_sub_cancel, gm_z2, gm_z3, gm_z9, gm_z16, gm_z18, gm_z32, gm_z36, gm_z64, gm_z1152, not_true_eq_false, not_false_eq_true, false_implies, true_implies, and_true, implies_true, gm_z1, Nat.reduceEqDiff, Nat.reduceLT, Nat.reduceLeDiff, Nat.reduceAdd, Nat.reduceMul, Nat.reduceSub]; exact ⟨fun h => ⟨rfl, J0 (by omega)⟩, fun h => ⟨rfl, J1 (by omega)⟩⟩
  · simp (disch := omega) only [nI_clamp, gm_clL, gm_in, gm_inL, gm_ml, gm_al, gm_la, gm_sl, nI_add, pk_mul, gm_eqL, gm_leL, gm_ltL, gm_Lle, gm_Llt, gm_eq, gm_le, gm_lt, gm_m1, forall_eq, true_and, Nat.not_lt_zero, Nat.add_sub_cancel, gm_z2, gm_z3, gm_z9, gm_z16, gm_z18, gm_z32, gm_z36, gm_z64, gm_z1152, not_true_eq_false, not_false_eq_true, false_implies, true_implies, and_true, implies_true, gm_z1, Nat.reduceEqDiff, Nat.reduceLT, Nat.reduceLeDiff, Nat.reduceAdd, Nat.reduceMul, Nat.reduceSub]; exact ⟨fun h => ⟨rfl, J0 (by omega)⟩, fun h => ⟨rfl, J1 (by omega)⟩⟩
  · simp (disch := omega) only [nI_clamp, gm_clL, gm_in, gm_inL, gm_ml, gm_al, gm_la, gm_sl, nI_add, pk_mul, gm_eqL, gm_leL, gm_ltL, gm_Lle, gm_Llt, gm_eq, gm_le, gm_lt, gm_m1, forall_eq, true_and, Nat.not_lt_zero, Nat.add_sub_cancel, gm_z2, gm_z3, gm_z9, gm_z16, gm_z18, gm_z32, gm_z36, gm_z64, gm_z1152, not_true_eq_false, not_false_eq_true, false_implies, true_implies, and_true, implies_true, gm_z1, Nat.reduceEqDiff, Nat.reduceLT, Nat.reduceLeDiff, Nat.reduceAdd, Nat.reduceMul, Nat.reduceSub]; exact ⟨fun h => ⟨rfl, J0 (by omega)⟩, fun h => ⟨rfl, J1 (by omega)⟩⟩
  · simp (disch := omega) only [nI_clamp, gm_clL, gm_in, gm_inL, gm_ml, gm_al, gm_la, gm_sl, nI_add, pk_mul, gm_eqL, gm_leL, gm_ltL, gm_Lle, gm_Llt, gm_eq, gm_le, gm_lt, gm_m1, forall_eq, true_and, Nat.not_lt_zero, Nat.add_sub_cancel, gm_z2, gm_z3, gm_z9, gm_z16, gm_z18, gm_z32, gm_z36, gm_z64, gm_z1152, not_true_eq_false, not_false_eq_true, false_implies, true_implies, and_true, implies_true, gm_z1, Nat.reduceEqDiff, Nat.reduceLT, Nat.reduceLeDiff, Nat.reduceAdd, Nat.reduceMul, Nat.reduceSub]; exact ⟨fun h => ⟨rfl, J0 (by omega)⟩, fun h => ⟨rfl, J1 (by omega)⟩⟩
  · simp (disch := omega) only [nI_clamp, gm_clL, gm_in, gm_inL, gm_ml, gm_al, gm_la, gm_sl, nI_add, pk_mul, gm_eqL, gm_leL, gm_ltL, gm_Lle, gm_Llt, gm_eq, gm_le, gm_lt, gm_m1, forall_eq, true_and, Nat.not_lt_zero, Nat.add_sub_cancel, gm_z2, gm_z3, gm_z9, gm_z16, gm_z18, gm_z32, gm_z36, gm_z64, gm_z1152, not_true_eq_false, not_false_eq_true, false_implies, true_implies, and_true, implies_true, gm_z1, Nat.reduceEqDiff, Nat.reduceLT, Nat.reduceLeDiff, Nat.reduceAdd, Nat.reduceMul, Nat.reduceSub]; exact ⟨fun h => ⟨rfl, J0 (by omega)⟩, fun h => ⟨rfl, J1 (by omega)⟩⟩
theorem ev_yopd (g_methods g_place g_result g_linked g_bad g_high g_refs g_active g_ticks g_code : Int32) (b_above b_ownField b_mType b_mName b_mLength b_bytes b_starts : Nat → Int32) (b_seen b_done : Nat → Int64) (b_heights b_local b_sure b_objType b_objField b_marked b_global b_fMethod b_fPc b_fHigh b_fLocal b_fEntry : Nat → Int32) {post : Int32 → SY → Prop} {J39 : Int32 → (Nat → Int32) → (Nat → Int32) → (Nat → Int32) → (Nat → Int32) → (Nat → Int32) → (Nat → Int32) → (Nat → Int32) → (Nat → Int64) → (Nat → Int64) → (Nat → Int32) → (Nat → Int32) → (Nat → Int32) → (Nat → Int32) → (Nat → Int32) → (Nat → Int32) → (Nat → Int32) → (Nat → Int32) → (Nat → Int32) → (Nat → Int32) → (Nat → Int32) → (Nat → Int32) → Prop} {x1 x2 : Int32} {p o b tc : Nat} (ho : o < 21) (hs : is_sg o = false) (hb : b < 256) (ht : tc ≤ 5) (J1 : is_opd tc o b → J39 (nI (p + 2)) b_above b_ownField b_mType b_mName b_mLength b_bytes b_starts b_seen b_done b_heights b_local b_sure b_objType b_objField b_marked b_global b_fMethod b_fPc b_fHigh b_fLocal b_fEntry) (J0 : ¬ is_opd tc o b → post (nI p) (nI tc, g_methods, g_place, g_result, g_linked, g_bad, g_high, g_refs, g_active, g_ticks, g_code, b_above, b_ownField, b_mType, b_mName, b_mLength, b_bytes, b_starts, b_seen, b_done, b_heights, b_local, b_sure, b_objType, b_objField, b_marked, b_global, b_fMethod, b_fPc, b_fHigh, b_fLocal, b_fEntry)) :
    ((o = 1 → (wY_formFault_123 post J39 x1 x2 (nI p) (nI o) (nI b) (nI tc) g_methods g_place g_result g_linked g_bad g_high g_refs g_active g_ticks g_code b_above b_ownField b_mType b_mName b_mLength b_bytes b_starts b_seen b_done b_heights b_local b_sure b_objType b_objField b_marked b_global b_fMethod b_fPc b_fHigh b_fLocal b_fEntry)) ∧ (¬ o = 1 → (((o = 2 → (wY_formFault_123 post J39 x1 x2 (nI p) (nI o) (nI b) (nI tc) g_methods g_place g_result g_linked g_bad g_high g_refs g_active g_ticks g_code b_above b_ownField b_mType b_mName b_mLength b_bytes b_starts b_seen b_done b_heights b_local b_sure b_objType b_objField b_marked b_global b_fMethod b_fPc b_fHigh b_fLocal b_fEntry)) ∧ (¬ o = 2 → (wY_formFault_129 post J39 x1 x2 (nI p) (nI o) (nI b) (nI tc) g_methods g_place g_result g_linked g_bad g_high g_refs g_active g_ticks g_code b_above b_ownField b_mType b_mName b_mLength b_bytes b_starts b_seen b_done b_heights b_local b_sure b_objType b_objField b_marked b_global b_fMethod b_fPc b_fHigh b_fLocal b_fEntry)))))) := by
  unfold is_opd at J1 J0
  unfold wY_formFault_123 wY_formFault_129 wY_formFault_150 wY_formFault_165 wY_formFault_179
  rcases is_dbl o ho hs with rfl | rfl | rfl | rfl | rfl | rfl | rfl | rfl | rfl | rfl | rfl | rfl
  · simp (disch := omega) only [nI_clamp, gm_clL, gm_in, gm_inL, gm_ml, gm_al, gm_la, gm_sl, nI_add, pk_mul, gm_eqL, gm_leL, gm_ltL, gm_Lle, gm_Llt, gm_eq, gm_le, gm_lt, gm_m1, forall_eq, true_and, Nat.not_lt_zero, Nat.add_sub_cancel, gm_z2, gm_z3, gm_z9, gm_z16, gm_z18, gm_z32, gm_z36, gm_z64, gm_z1152, not_true_eq_false, not_false_eq_true, false_implies, true_implies, and_true, implies_true, gm_z1, Nat.reduceEqDiff, Nat.reduceLT, Nat.reduceLeDiff, Nat.reduceAdd, Nat.reduceMul, Nat.reduceSub]; exact J1 (by omega)
  · simp (disch := omega) only [nI_clamp, gm_clL, gm_in, gm_inL, gm_ml, gm_al, gm_la, gm_sl, nI_add, pk_mul, gm_eqL, gm_leL, gm_ltL, gm_Lle, gm_Llt, gm_eq, gm_le, gm_lt, gm_m1, forall_eq, true_and, Nat.not_lt_zero, Nat.add_sub_cancel, gm_z2, gm_z3, gm_z9, gm_z16, gm_z18, gm_z32, gm_z36, gm_z64, gm_z1152, not_true_eq_false, not_false_eq_true, false_implies, true_implies, and_true, implies_true, gm_z1, Nat.reduceEqDiff, Nat.reduceLT, Nat.reduceLeDiff, Nat.reduceAdd, Nat.reduceMul, Nat.reduceSub]; exact ⟨fun h => J0 (by omega), fun h => J1 (by omega)⟩
  · simp (disch := omega) only [nI_clamp, gm_clL, gm_in, gm_inL, gm_ml, gm_al, gm_la, gm_sl, nI_add, pk_mul, gm_eqL, gm_leL, gm_ltL, gm_Lle, gm_Llt, gm_eq, gm_le, gm_lt, gm_m1, forall_eq, true_and, Nat.not_lt_zero, Nat.add_sub_cancel, gm_z2, gm_z3, gm_z9, gm_z16, gm_z18, gm_z32, gm_z36, gm_z64, gm_z1152, not_true_eq_false, not_false_eq_true, false_implies, true_implies, and_true, implies_true, gm_z1, Nat.reduceEqDiff, Nat.reduceLT, Nat.reduceLeDiff, Nat.reduceAdd, Nat.reduceMul, Nat.reduceSub]; exact ⟨fun h => J0 (by omega), fun h => J1 (by omega)⟩
  · simp (disch := omega) only [nI_clamp, gm_clL, gm_in, gm_inL, gm_ml, gm_al, gm_la, gm_sl, nI_add, pk_mul, gm_eqL, gm_leL, gm_ltL, gm_Lle, gm_Llt, gm_eq, gm_le, gm_lt, gm_m1, forall_eq, true_and, Nat.not_lt_zero, Nat.add_sub_cancel, gm_z2, gm_z3, gm_z9, gm_z16, gm_z18, gm_z32, gm_z36, gm_z64, gm_z1152, not_true_eq_false, not_false_eq_true, false_implies, true_implies, and_true, implies_true, gm_z1, Nat.reduceEqDiff, Nat.reduceLT, Nat.reduceLeDiff, Nat.reduceAdd, Nat.reduceMul, Nat.reduceSub]; exact J1 (by omega)
  · simp (disch := omega) only [nI_clamp, gm_clL, gm_in, gm_inL, gm_ml, gm_al, gm_la, gm_sl, nI_add, pk_mul, gm_eqL, gm_leL, gm_ltL, gm_Lle, gm_Llt, gm_eq, gm_le, gm_lt, gm_m1, forall_eq, true_and, Nat.not_lt_zero, Nat.add_sub_cancel, gm_z2, gm_z3, gm_z9, gm_z16, gm_z18, gm_z32, gm_z36, gm_z64, gm_z1152, not_true_eq_false, not_false_eq_true, false_implies, true_implies, and_true, implies_true, gm_z1, Nat.reduceEqDiff, Nat.reduceLT, Nat.reduceLeDiff, Nat.reduceAdd, Nat.reduceMul, Nat.reduceSub]; exact J1 (by omega)
  · simp (disch := omega) only [nI_clamp, gm_clL, gm_in, gm_inL, gm_ml, gm_al, gm_la, gm_sl, nI_add, pk_mul, gm_eqL, gm_leL, gm_ltL, gm_Lle, gm_Llt, gm_eq, gm_le, gm_lt, gm_m1, forall_eq, true_and, Nat.not_lt_zero, Nat.add_sub_cancel, gm_z2, gm_z3, gm_z9, gm_z16, gm_z18, gm_z32, gm_z36, gm_z64, gm_z1152, not_true_eq_false, not_false_eq_true, false_implies, true_implies, and_true, implies_true, gm_z1, Nat.reduceEqDiff, Nat.reduceLT, Nat.reduceLeDiff, Nat.reduceAdd, Nat.reduceMul, Nat.reduceSub]; exact ⟨fun h => J1 (by omega), fun h => J0 (by omega)⟩
  · simp (disch := omega) only [nI_clamp, gm_clL, gm_in, gm_inL, gm_ml, gm_al, gm_la, gm_sl, nI_add, pk_mul, gm_eqL, gm_leL, gm_ltL, gm_Lle, gm_Llt, gm_eq, gm_le, gm_lt, gm_m1, forall_eq, true_and, Nat.not_lt_zero, Nat.add_sub_cancel, gm_z2, gm_z3, gm_z9, gm_z16, gm_z18, gm_z32, gm_z36, gm_z64, gm_z1152, not_true_eq_false, not_false_eq_true, false_implies, true_implies, and_true, implies_true, gm_z1, Nat.reduceEqDiff, Nat.reduceLT, Nat.reduceLeDiff, Nat.reduceAdd, Nat.reduceMul, Nat.reduceSub]; exact ⟨fun h => J0 (by omega), fun h => J1 (by omega)⟩
  · simp (disch := omega) only [nI_clamp, gm_clL, gm_in, gm_inL, gm_ml, gm_al, gm_la, gm_sl, nI_add, pk_mul, gm_eqL, gm_leL, gm_ltL, gm_Lle, gm_Llt, gm_eq, gm_le, gm_lt, gm_m1, forall_eq, true_and, Nat.not_lt_zero, Nat.add_sub_cancel, gm_z2, gm_z3, gm_z9, gm_z16, gm_z18, gm_z32, gm_z36, gm_z64, gm_z1152, not_true_eq_false, not_false_eq_true, false_implies, true_implies, and_true, implies_true, gm_z1, Nat.reduceEqDiff, Nat.reduceLT, Nat.reduceLeDiff, Nat.reduceAdd, Nat.reduceMul, Nat.reduceSub]; exact ⟨fun h => J0 (by omega), fun h => J1 (by omega)⟩
  · simp (disch := omega) only [nI_clamp, gm_clL, gm_in, gm_inL, gm_ml, gm_al, gm_la, gm_sl, nI_add, pk_mul, gm_eqL, gm_leL, gm_ltL, gm_Lle, gm_Llt, gm_eq, gm_le, gm_lt, gm_m1, forall_eq, true_and, Nat.not_lt_zero, Nat.add_sub_cancel, gm_z2, gm_z3, gm_z9, gm_z16, gm_z18, gm_z32, gm_z36, gm_z64, gm_z1152, not_true_eq_false, not_false_eq_true, false_implies, true_implies, and_true, implies_true, gm_z1, Nat.reduceEqDiff, Nat.reduceLT, Nat.reduceLeDiff, Nat.reduceAdd, Nat.reduceMul, Nat.reduceSub]; exact ⟨fun h => J0 (by omega), fun h => J1 (by omega)⟩
  · simp (disch := omega) only [nI_clamp, gm_clL, gm_in, gm_inL, gm_ml, gm_al, gm_la, gm_sl, nI_add, pk_mul, gm_eqL, gm_leL, gm_ltL, gm_Lle, gm_Llt, gm_eq, gm_le, gm_lt, gm_m1, forall_eq, true_and, Nat.not_lt_zero, Nat.add_sub_cancel, gm_z2, gm_z3, gm_z9, gm_z16, gm_z18, gm_z32, gm_z36, gm_z64, gm_z1152, not_true_eq_false, not_false_eq_true, false_implies, true_implies, and_true, implies_true, gm_z1, Nat.reduceEqDiff, Nat.reduceLT, Nat.reduceLeDiff, Nat.reduceAdd, Nat.reduceMul, Nat.reduceSub]; exact ⟨fun h => J1 (by omega), fun h => J0 (by omega)⟩
  · simp (disch := omega) only [nI_clamp, gm_clL, gm_in, gm_inL, gm_ml, gm_al, gm_la, gm_sl, nI_add, pk_mul, gm_eqL, gm_leL, gm_ltL, gm_Lle, gm_Llt, gm_eq, gm_le, gm_lt, gm_m1, forall_eq, true_and, Nat.not_lt_zero, Nat.add_sub_cancel, gm_z2, gm_z3, gm_z9, gm_z16, gm_z18, gm_z32, gm_z36, gm_z64, gm_z1152, not_true_eq_false, not_false_eq_true, false_implies, true_implies, and_true, implies_true, gm_z1, Nat.reduceEqDiff, Nat.reduceLT, Nat.reduceLeDiff, Nat.reduceAdd, Nat.reduceMul, Nat.reduceSub]; exact ⟨fun h => J1 (by omega), fun h => J0 (by omega)⟩
  · simp (disch := omega) only [nI_clamp, gm_clL, gm_in, gm_inL, gm_ml, gm_al, gm_la, gm_sl, nI_add, pk_mul, gm_eqL, gm_leL, gm_ltL, gm_Lle, gm_Llt, gm_eq, gm_le, gm_lt, gm_m1, forall_eq, true_and, Nat.not_lt_zero, Nat.add_sub_cancel, gm_z2, gm_z3, gm_z9, gm_z16, gm_z18, gm_z32, gm_z36, gm_z64, gm_z1152, not_true_eq_false, not_false_eq_true, false_implies, true_implies, and_true, implies_true, gm_z1, Nat.reduceEqDiff, Nat.reduceLT, Nat.reduceLeDiff, Nat.reduceAdd, Nat.reduceMul, Nat.reduceSub]; exact ⟨fun h => J1 (by omega), fun h => J0 (by omega)⟩
end
section
/-! ===== the first bytes as a function, and what the form's faults are ===== -/
def stt (D : Nat → Nat) : Nat → Bool
  | 0 => true
  | 1 => decide (is_sz (D 0) = 1)
  | q + 2 => (stt D (q + 1) && decide (is_sz (D (q + 1)) = 1)) || (stt D q && decide (is_sz (D q) = 2))
theorem is_sz12 (o : Nat) : is_sz o = 1 ∨ is_sz o = 2 := by unfold is_sz; split <;> simp
theorem stt_1 {D : Nat → Nat} {q : Nat} (h : stt D q = true) (e : is_sz (D q) = 1) : stt D (q + 1) = true := by
  cases q with
  | zero => unfold stt; simp [e]
  | succ q => unfold stt; simp [h, e]
theorem stt_2 {D : Nat → Nat} {q : Nat} (h : stt D q = true) (e : is_sz (D q) = 2) : stt D (q + 2) = true := by
  unfold stt; simp [h, e]
theorem stt_n {D : Nat → Nat} : ∀ q, stt D q = true → is_sz (D q) = 2 → stt D (q + 1) = false
  | 0, _, e => by unfold stt; simp [e]
  | q + 1, h, e => by
    cases h2 : stt D (q + 1 + 1)
    · rfl
    · exfalso
      unfold stt at h2
      simp only [Bool.or_eq_true, Bool.and_eq_true, decide_eq_true_eq] at h2
      rcases h2 with ⟨-, z⟩ | ⟨z1, z2⟩
      · omega
      · rw [stt_n q z1 z2] at h
        exact nomatch h
def bfP (tc L : Nat) (D : Nat → Nat) (p : Nat) : Prop := ¬ (D p < 21 ∧ p + is_sz (D p) ≤ L ∧ (is_sg (D p) = false → is_opd tc (D p) (D (p + 1))))
def jbP (L : Nat) (D : Nat → Nat) (p : Nat) : Prop := (D p = 10 ∨ D p = 11) ∧ ¬ (D (p + 1) < L ∧ stt D (D (p + 1)) = true)
/-- q is the first byte of the first instruction that has a fault -/
def fqP (tc L : Nat) (D : Nat → Nat) (q : Nat) : Prop := (L = 0 ∧ q = 0) ∨ (0 < L ∧ q < L ∧ stt D q = true ∧ bfP tc L D q ∧ ∀ p, p < q → stt D p = true → ¬ bfP tc L D p) ∨ (0 < L ∧ (∀ p, p < L → stt D p = true → ¬ bfP tc L D p) ∧ q < L ∧ stt D q = true ∧ jbP L D q ∧ ∀ p, p < q → stt D p = true → ¬ jbP L D p)
def fnP (tc L : Nat) (D : Nat → Nat) : Prop := 0 < L ∧ (∀ p, p < L → stt D p = true → ¬ bfP tc L D p) ∧ ∀ p, p < L → stt D p = true → ¬ jbP L D p
theorem fq_u {tc L q q' : Nat} {D : Nat → Nat} (a : fqP tc L D q) (b : fqP tc L D q') : q = q' := by
  rcases a with ⟨a1, a2⟩ | ⟨a1, a2, a3, a4, a5⟩ | ⟨a1, a2, a3, a4, a5, a6⟩
  · rcases b with ⟨b1, b2⟩ | ⟨b1, -⟩ | ⟨b1, -⟩ <;> omega
  · rcases b with ⟨b1, b2⟩ | ⟨b1, b2, b3, b4, b5⟩ | ⟨b1, b2, -⟩
    · omega
    · rcases Nat.lt_trichotomy q q' with z | z | z
      · exact absurd a4 (b5 q z a3)
      · exact z
      · exact absurd b4 (a5 q' z b3)
    · exact absurd a4 (b2 q a2 a3)
  · rcases b with ⟨b1, b2⟩ | ⟨b1, b2, b3, b4, b5⟩ | ⟨b1, b2, b3, b4, b5, b6⟩
    · omega
    · exact absurd b4 (a2 q' b2 b3)
    · rcases Nat.lt_trichotomy q q' with z | z | z
      · exact absurd a5 (b6 q z a4)
      · exact z
      · exact absurd b5 (a6 q' z b4)
theorem fq_n {tc L q : Nat} {D : Nat → Nat} (a : fqP tc L D q) (b : fnP tc L D) : False := by
  obtain ⟨b1, b2, b3⟩ := b
  rcases a with ⟨a1, a2⟩ | ⟨a1, a2, a3, a4, a5⟩ | ⟨a1, a2, a3, a4, a5, a6⟩
  · omega
  · exact b2 q a2 a3 a4
  · exact b3 q a3 a4 a5
/-! ===== the instructions' first bytes, on both sides ===== -/
def fbI (m L tc p : Nat) (D : Nat → Nat) (xs ys : Nat → Int32) : Prop := p ≤ L ∧ (∀ q, q < 32 → xs (m * 32 + q) = ys q) ∧ (∀ q, p ≤ q → q < 32 → ys q = 0) ∧ (∀ q, q < p → ys q ≠ 0 → D q < 21 ∧ (is_sg (D q) = false → is_opd tc (D q) (D (q + 1))) ∧ q + is_sz (D q) ≤ p ∧ (q + is_sz (D q) < p → ys (q + is_sz (D q)) ≠ 0)) ∧ (p = 0 ∨ ys 0 ≠ 0) ∧ (∀ q, q < p → (ys q ≠ 0 ↔ stt D q = true)) ∧ stt D p = true
theorem fbI_s {m L tc p : Nat} {D : Nat → Nat} {xs ys : Nat → Int32} (I : fbI m L tc p D xs ys) (h21 : D p < 21) (ho : is_sg (D p) = false → is_opd tc (D p) (D (p + 1))) (hz : p + is_sz (D p) ≤ L) (hp : p < 32) (hL : L ≤ 32) : fbI m L tc (p + is_sz (D p)) D (upd xs (m * 32 + p) 1) (upd ys p 1) := by
  obtain ⟨a1, a2, a3, a4, a5, a6, a7⟩ := I
  have hsz : is_sz (D p) = 1 ∨ is_sz (D p) = 2 := by unfold is_sz; split <;> simp
  refine ⟨hz, fun q hq => ?_, fun q h1 h2 => ?_, fun q h1 h2 => ?_, ?_, fun q h1 => ?_, ?_⟩
  · by_cases e : q = p
    · subst e; rw [pk_us, pk_us]
    · rw [pk_un (by omega), pk_un e]; exact a2 q hq
  · rw [pk_un (by omega)]; exact a3 q (by omega) h2
  · by_cases e : q = p
    · subst e
      exact ⟨h21, ho, by omega, fun z => absurd z (by omega)⟩
    · rw [pk_un e] at h2
      by_cases hq : q < p
      · obtain ⟨b1, b2, b3, b4⟩ := a4 q hq h2
        refine ⟨b1, b2, by omega, fun z => ?_⟩
        by_cases e2 : q + is_sz (D q) = p
        · rw [e2, pk_us]; decide
        · rw [pk_un e2]; exact b4 (by omega)
      · exact absurd (a3 q (by omega) (by omega)) h2
  · right
    rcases a5 with z | z
    · subst z; rw [pk_us]; decide
    · by_cases e : p = 0
      · subst e; rw [pk_us]; decide
      · rw [pk_un (by omega)]; exact z
  · by_cases e : q = p
    · subst e
      rw [pk_us]
      exact ⟨fun _ => a7, fun _ => by decide⟩
    · rw [pk_un e]
      by_cases hq : q < p
      · exact a6 q hq
      · have e2 : is_sz (D p) = 2 := by omega
        have e3 : q = p + 1 := by omega
        subst e3
        rw [stt_n p a7 e2]
        refine ⟨fun z => absurd (a3 (p + 1) (by omega) (by omega)) z, fun z => nomatch z⟩
  · rcases hsz with e | e
    · rw [e]; exact stt_1 a7 e
    · rw [e]; exact stt_2 a7 e
theorem fb_both (f_methodCount f_linked f_faultPlace f_flowHeight f_active f_ticksLeft f_outcome f_latestResult : Int32) (a_typeAbove a_fieldSet a_methodType a_methodName a_codeLength a_bytes a_heightAt a_kindsAt a_isWaiting a_flowKinds a_globals a_objectType a_fieldValue a_isMarked a_frameMethod a_frameAt a_frameHeight a_slots : Nat → Int32) (g_methods g_place g_result g_linked g_bad g_high g_refs g_active g_ticks g_code : Int32) (b_above b_ownField b_mType b_mName b_mLength : Nat → Int32) (b_seen b_done : Nat → Int64) (b_heights b_local b_sure b_objType b_objField b_marked b_global b_fMethod b_fPc b_fHigh b_fLocal b_fEntry : Nat → Int32) {m L tc : Nat} {D : Nat → Nat} (hm : m < 8) (hL : L ≤ 32) (ht : tc ≤ 5) (eL : a_codeLength m = nI L) (hD : ∀ p, p < 33 → a_bytes (m * 32 + p) = nI (D p) ∧ D p < 256) :
    ∀ d p, L ≤ p + d → ∀ xs ys, fbI m L tc p D xs ys →
    (∃ q xs' ys', q < 32 ∧ (q < L ∧ stt D q = true ∧ bfP tc L D q ∧ ∀ p, p < q → stt D p = true → ¬ bfP tc L D p) ∧ (∀ post : Int32 → SX → Prop, post (nI q) (nI tc, f_methodCount, f_linked, f_faultPlace, f_flowHeight, f_active, f_ticksLeft, f_outcome, f_latestResult, a_typeAbove, a_fieldSet, a_methodType, a_methodName, a_codeLength, a_bytes, xs', a_heightAt, a_kindsAt, a_isWaiting, a_flowKinds, a_globals, a_objectType, a_fieldValue, a_isMarked, a_frameMethod, a_frameAt, a_frameHeight, a_slots) → wX_findByteFault_30 post (nI m) (nI (m * 32)) (nI tc) f_methodCount f_linked f_faultPlace f_flowHeight f_active f_ticksLeft f_outcome f_latestResult (d + 1) (nI p) a_typeAbove a_fieldSet a_methodType a_methodName a_codeLength a_bytes xs a_heightAt a_kindsAt a_isWaiting a_flowKinds a_globals a_objectType a_fieldValue a_isMarked a_frameMethod a_frameAt a_frameHeight a_slots) ∧ (∀ post : Int32 → SY → Prop, post (nI q) (nI tc, g_methods, g_place, g_result, g_linked, g_bad, g_high, g_refs, g_active, g_ticks, g_code, b_above, b_ownField, b_mType, b_mName, b_mLength, a_bytes, ys', b_seen, b_done, b_heights, b_local, b_sure, b_objType, b_objField, b_marked, b_global, b_fMethod, b_fPc, b_fHigh, b_fLocal, b_fEntry) → wY_formFault_39 post (nI m) (nI L) (nI tc) g_methods g_place g_result g_linked g_bad g_high g_refs g_active g_ticks g_code (d + 1) (nI p) b_above b_ownField b_mType b_mName b_mLength a_bytes ys b_seen b_done b_heights b_local b_sure b_objType b_objField b_marked b_global b_fMethod b_fPc b_fHigh b_fLocal b_fEntry)) ∨
    (∃ xs' ys', fbI m L tc L D xs' ys' ∧ (∀ post : Int32 → SX → Prop, post (-1) (nI tc, f_methodCount, f_linked, f_faultPlace, f_flowHeight, f_active, f_ticksLeft, f_outcome, f_latestResult, a_typeAbove, a_fieldSet, a_methodType, a_methodName, a_codeLength, a_bytes, xs', a_heightAt, a_kindsAt, a_isWaiting, a_flowKinds, a_globals, a_objectType, a_fieldValue, a_isMarked, a_frameMethod, a_frameAt, a_frameHeight, a_slots) → wX_findByteFault_30 post (nI m) (nI (m * 32)) (nI tc) f_methodCount f_linked f_faultPlace f_flowHeight f_active f_ticksLeft f_outcome f_latestResult (d + 1) (nI p) a_typeAbove a_fieldSet a_methodType a_methodName a_codeLength a_bytes xs a_heightAt a_kindsAt a_isWaiting a_flowKinds a_globals a_objectType a_fieldValue a_isMarked a_frameMethod a_frameAt a_frameHeight a_slots) ∧ (∀ post : Int32 → SY → Prop, (∃ n, wY_formFault_198 post (nI m) (nI L) (nI tc) g_methods g_place g_result g_linked g_bad g_high g_refs g_active g_ticks g_code b_above b_ownField b_mType b_mName b_mLength a_bytes ys' b_seen b_done b_heights b_local b_sure b_objType b_objField b_marked b_global b_fMethod b_fPc b_fHigh b_fLocal b_fEntry n 0) → wY_formFault_39 post (nI m) (nI L) (nI tc) g_methods g_place g_result g_linked g_bad g_high g_refs g_active g_ticks g_code (d + 1) (nI p) b_above b_ownField b_mType b_mName b_mLength a_bytes ys b_seen b_done b_heights b_local b_sure b_objType b_objField b_marked b_global b_fMethod b_fPc b_fHigh b_fLocal b_fEntry)) := by
  intro d
  induction d with
  | zero =>
    intro p hp xs ys I
    have e : p = L := by have := I.1; omega
    subst e
    refine Or.inr ⟨xs, ys, I, fun post J => ?_, fun post J => ?_⟩
    · unfold wX_findByteFault_30
      simp (disch := omega) only [nI_clamp, gm_clL, gm_in, gm_inL, gm_ml, gm_al, gm_la, gm_sl, nI_add, pk_mul, gm_eqL, gm_leL, gm_ltL, gm_Lle, gm_Llt, gm_eq, gm_le, gm_lt, gm_m1, forall_eq, true_and, Nat.not_lt_zero, Nat.add_sub_cancel, gm_z2, gm_z3, gm_z9, gm_z16, gm_z18, gm_z32, gm_z36, gm_z64, gm_z1152, not_true_eq_false, not_false_eq_true, false_implies, true_implies, and_true, implies_true, eL]
      exact ⟨fun _ => J, fun z => absurd (Nat.le_refl _) z⟩
    · unfold wY_formFault_39
      simp (disch := omega) only [nI_clamp, gm_clL, gm_in, gm_inL, gm_ml, gm_al, gm_la, gm_sl, nI_add, pk_mul, gm_eqL, gm_leL, gm_ltL, gm_Lle, gm_Llt, gm_eq, gm_le, gm_lt, gm_m1, forall_eq, true_and, Nat.not_lt_zero, Nat.add_sub_cancel, gm_z2, gm_z3, gm_z9, gm_z16, gm_z18, gm_z32, gm_z36, gm_z64, gm_z1152, not_true_eq_false, not_false_eq_true, false_implies, true_implies, and_true, implies_true]
      exact ⟨fun _ => J, fun z => absurd (Nat.le_refl _) z⟩
  | succ d ih =>
    intro p hp xs ys I
    by_cases hpL : p = L
    · subst hpL
      refine Or.inr ⟨xs, ys, I, fun post J => ?_, fun post J => ?_⟩
      · unfold wX_findByteFault_30
        simp (disch := omega) only [nI_clamp, gm_clL, gm_in, gm_inL, gm_ml, gm_al, gm_la, gm_sl, nI_add, pk_mul, gm_eqL, gm_leL, gm_ltL, gm_Lle, gm_Llt, gm_eq, gm_le, gm_lt, gm_m1, forall_eq, true_and, Nat.not_lt_zero, Nat.add_sub_cancel, gm_z2, gm_z3, gm_z9, gm_z16, gm_z18, gm_z32, gm_z36, gm_z64, gm_z1152, not_true_eq_false, not_false_eq_true, false_implies, true_implies, and_true, implies_true, eL]
        exact ⟨fun _ => J, fun z => absurd (Nat.le_refl _) z⟩
      · unfold wY_formFault_39
        simp (disch := omega) only [nI_clamp, gm_clL, gm_in, gm_inL, gm_ml, gm_al, gm_la, gm_sl, nI_add, pk_mul, gm_eqL, gm_leL, gm_ltL, gm_Lle, gm_Llt, gm_eq, gm_le, gm_lt, gm_m1, forall_eq, true_and, Nat.not_lt_zero, Nat.add_sub_cancel, gm_z2, gm_z3, gm_z9, gm_z16, gm_z18, gm_z32, gm_z36, gm_z64, gm_z1152, not_true_eq_false, not_false_eq_true, false_implies, true_implies, and_true, implies_true]
        exact ⟨fun _ => J, fun z => absurd (Nat.le_refl _) z⟩
    · have hp2 : p < L := by have := I.1; omega
      have bfOld : ∀ q, q < p → stt D q = true → ¬ bfP tc L D q := fun q hq hs z => by
        obtain ⟨b1, b2, b3, b4⟩ := I.2.2.2.1 q hq ((I.2.2.2.2.2.1 q hq).mpr hs)
        exact z ⟨b1, by omega, b2⟩
      have hsp := I.2.2.2.2.2.2
      obtain ⟨eD, hD2⟩ := hD p (by omega)
      obtain ⟨eD1, hD3⟩ := hD (p + 1) (by omega)
      rw [show m * 32 + (p + 1) = m * 32 + p + 1 by omega] at eD1
      have szE : is_sz (D p) = if is_sg (D p) = true then 1 else 2 := rfl
      -- no code
      by_cases h21 : D p < 21
      · have sX : ∀ post : Int32 → SX → Prop, (∀ xs', (is_sz (D p) = 2 → L < p + 2 → post (nI p) (nI tc, f_methodCount, f_linked, f_faultPlace, f_flowHeight, f_active, f_ticksLeft, f_outcome, f_latestResult, a_typeAbove, a_fieldSet, a_methodType, a_methodName, a_codeLength, a_bytes, xs', a_heightAt, a_kindsAt, a_isWaiting, a_flowKinds, a_globals, a_objectType, a_fieldValue, a_isMarked, a_frameMethod, a_frameAt, a_frameHeight, a_slots))) → (is_sz (D p) = 2 → p + 2 ≤ L → ¬ is_opd tc (D p) (D (p + 1)) → post (nI p) (nI tc, f_methodCount, f_linked, f_faultPlace, f_flowHeight, f_active, f_ticksLeft, f_outcome, f_latestResult, a_typeAbove, a_fieldSet, a_methodType, a_methodName, a_codeLength, a_bytes, xs, a_heightAt, a_kindsAt, a_isWaiting, a_flowKinds, a_globals, a_objectType, a_fieldValue, a_isMarked, a_frameMethod, a_frameAt, a_frameHeight, a_slots)) → ((p + is_sz (D p) ≤ L) → (is_sg (D p) = false → is_opd tc (D p) (D (p + 1))) → wX_findByteFault_30 post (nI m) (nI (m * 32)) (nI tc) f_methodCount f_linked f_faultPlace f_flowHeight f_active f_ticksLeft f_outcome f_latestResult (d + 1) (nI (p + is_sz (D p))) a_typeAbove a_fieldSet a_methodType a_methodName a_codeLength a_bytes (upd xs (m * 32 + p) 1) a_heightAt a_kindsAt a_isWaiting a_flowKinds a_globals a_objectType a_fieldValue a_isMarked a_frameMethod a_frameAt a_frameHeight a_slots) → wX_findByteFault_30 post (nI m) (nI (m * 32)) (nI tc) f_methodCount f_linked f_faultPlace f_flowHeight f_active f_ticksLeft f_outcome f_latestResult (d + 1 + 1) (nI p) a_typeAbove a_fieldSet a_methodType a_methodName a_codeLength a_bytes xs a_heightAt a_kindsAt a_isWaiting a_flowKinds a_globals a_objectType a_fieldValue a_isMarked a_frameMethod a_frameAt a_frameHeight a_slots := by
          intro post J1 J2 J3
          unfold wX_findByteFault_30
          simp (disch := omega) only [nI_clamp, gm_clL, gm_in, gm_inL, gm_ml, gm_al, gm_la, gm_sl, nI_add, pk_mul, gm_eqL, gm_leL, gm_ltL, gm_Lle, gm_Llt, gm_eq, gm_le, gm_lt, gm_m1, forall_eq, true_and, Nat.not_lt_zero, Nat.add_sub_cancel, gm_z2, gm_z3, gm_z9, gm_z16, gm_z18, gm_z32, gm_z36, gm_z64, gm_z1152, not_true_eq_false, not_false_eq_true, false_implies, true_implies, and_true, implies_true, eL, eD]
          refine ⟨fun z => absurd z (by omega), fun _ => ⟨fun _ => ev_sizeOf (by omega) ?_, fun z => absurd (show D p ≤ 20 by omega) z⟩⟩
          unfold wX_findByteFault_108
          cases hsg : is_sg (D p)
          · have e2 : is_sz (D p) = 2 := by rw [szE, hsg]; rfl
            rw [e2] at J1 J2 J3 ⊢
            simp (disch := omega) only [nI_clamp, gm_clL, gm_in, gm_inL, gm_ml, gm_al, gm_la, gm_sl, nI_add, pk_mul, gm_eqL, gm_leL, gm_ltL, gm_Lle, gm_Llt, gm_eq, gm_le, gm_lt, gm_m1, forall_eq, true_and, Nat.not_lt_zero, Nat.add_sub_cancel, gm_z2, gm_z3, gm_z9, gm_z16, gm_z18, gm_z32, gm_z36, gm_z64, gm_z1152, not_true_eq_false, not_false_eq_true, false_implies, true_implies, and_true, implies_true, gm_z1, Nat.reduceEqDiff, Nat.reduceLT, Nat.reduceLeDiff, Nat.reduceAdd, Nat.reduceMul, Nat.reduceSub, eL, eD1, gm_nb1]
            refine ⟨fun h => ⟨vp_in_nI (by omega) (by omega), ev_opd f_methodCount f_linked f_faultPlace f_flowHeight f_active f_ticksLeft f_outcome f_latestResult a_typeAbove a_fieldSet a_methodType a_methodName a_codeLength a_bytes xs a_heightAt a_kindsAt a_isWaiting a_flowKinds a_globals a_objectType a_fieldValue a_isMarked a_frameMethod a_frameAt a_frameHeight a_slots h21 hsg (by omega) ht (fun h2 => br_f (by decide) ?_) (fun h2 => br_t (by decide) (J2 rfl h h2))⟩, fun h => J1 xs rfl (by omega)⟩
            exact J3 h (fun _ => h2)
          · have e2 : is_sz (D p) = 1 := by rw [szE, hsg]; rfl
            rw [e2] at J1 J2 J3 ⊢
            simp (disch := omega) only [nI_clamp, gm_clL, gm_in, gm_inL, gm_ml, gm_al, gm_la, gm_sl, nI_add, pk_mul, gm_eqL, gm_leL, gm_ltL, gm_Lle, gm_Llt, gm_eq, gm_le, gm_lt, gm_m1, forall_eq, true_and, Nat.not_lt_zero, Nat.add_sub_cancel, gm_z2, gm_z3, gm_z9, gm_z16, gm_z18, gm_z32, gm_z36, gm_z64, gm_z1152, not_true_eq_false, not_false_eq_true, false_implies, true_implies, and_true, implies_true, gm_z1, Nat.reduceEqDiff, Nat.reduceLT, Nat.reduceLeDiff, Nat.reduceAdd, Nat.reduceMul, Nat.reduceSub, eL, eD1, gm_nb1]
            refine ⟨fun h => ?_, fun z => absurd (show p + 1 ≤ L by omega) z⟩
            exact J3 h (fun z => by rw [hsg] at z; exact nomatch z)
        have sY : ∀ post : Int32 → SY → Prop, (is_sz (D p) = 2 → L < p + 2 → post (nI p) (nI tc, g_methods, g_place, g_result, g_linked, g_bad, g_high, g_refs, g_active, g_ticks, g_code, b_above, b_ownField, b_mType, b_mName, b_mLength, a_bytes, upd ys p 1, b_seen, b_done, b_heights, b_local, b_sure, b_objType, b_objField, b_marked, b_global, b_fMethod, b_fPc, b_fHigh, b_fLocal, b_fEntry)) → (is_sz (D p) = 2 → p + 2 ≤ L → ¬ is_opd tc (D p) (D (p + 1)) → post (nI p) (nI tc, g_methods, g_place, g_result, g_linked, g_bad, g_high, g_refs, g_active, g_ticks, g_code, b_above, b_ownField, b_mType, b_mName, b_mLength, a_bytes, upd ys p 1, b_seen, b_done, b_heights, b_local, b_sure, b_objType, b_objField, b_marked, b_global, b_fMethod, b_fPc, b_fHigh, b_fLocal, b_fEntry)) → ((p + is_sz (D p) ≤ L) → (is_sg (D p) = false → is_opd tc (D p) (D (p + 1))) → wY_formFault_39 post (nI m) (nI L) (nI tc) g_methods g_place g_result g_linked g_bad g_high g_refs g_active g_ticks g_code (d + 1) (nI (p + is_sz (D p))) b_above b_ownField b_mType b_mName b_mLength a_bytes (upd ys p 1) b_seen b_done b_heights b_local b_sure b_objType b_objField b_marked b_global b_fMethod b_fPc b_fHigh b_fLocal b_fEntry) → wY_formFault_39 post (nI m) (nI L) (nI tc) g_methods g_place g_result g_linked g_bad g_high g_refs g_active g_ticks g_code (d + 1 + 1) (nI p) b_above b_ownField b_mType b_mName b_mLength a_bytes ys b_seen b_done b_heights b_local b_sure b_objType b_objField b_marked b_global b_fMethod b_fPc b_fHigh b_fLocal b_fEntry := by
          intro post J1 J2 J3
          unfold wY_formFault_39
          simp (disch := omega) only [nI_clamp, gm_clL, gm_in, gm_inL, gm_ml, gm_al, gm_la, gm_sl, nI_add, pk_mul, gm_eqL, gm_leL, gm_ltL, gm_Lle, gm_Llt, gm_eq, gm_le, gm_lt, gm_m1, forall_eq, true_and, Nat.not_lt_zero, Nat.add_sub_cancel, gm_z2, gm_z3, gm_z9, gm_z16, gm_z18, gm_z32, gm_z36, gm_z64, gm_z1152, not_true_eq_false, not_false_eq_true, false_implies, true_implies, and_true, implies_true, eD, gm_nb1]
          refine ⟨fun z => absurd z (by omega), fun _ => ⟨fun _ => ev_single (by omega) ?_, fun z => absurd (show D p ≤ 20 by omega) z⟩⟩
          cases hsg : is_sg (D p)
          · have e2 : is_sz (D p) = 2 := by rw [szE, hsg]; rfl
            rw [e2] at J1 J2 J3
            refine br_t rfl ⟨fun h => J1 rfl (by omega), fun h => ?_⟩
            simp (disch := omega) only [nI_clamp, gm_clL, gm_in, gm_inL, gm_ml, gm_al, gm_la, gm_sl, nI_add, pk_mul, gm_eqL, gm_leL, gm_ltL, gm_Lle, gm_Llt, gm_eq, gm_le, gm_lt, gm_m1, forall_eq, true_and, Nat.not_lt_zero, Nat.add_sub_cancel, gm_z2, gm_z3, gm_z9, gm_z16, gm_z18, gm_z32, gm_z36, gm_z64, gm_z1152, not_true_eq_false, not_false_eq_true, false_implies, true_implies, and_true, implies_true, eD1]
            refine ev_yopd g_methods g_place g_result g_linked g_bad g_high g_refs g_active g_ticks g_code b_above b_ownField b_mType b_mName b_mLength a_bytes (upd ys p 1) b_seen b_done b_heights b_local b_sure b_objType b_objField b_marked b_global b_fMethod b_fPc b_fHigh b_fLocal b_fEntry h21 hsg (by omega) ht (fun h2 => J3 (by omega) (fun _ => h2)) (fun h2 => J2 rfl (by omega) h2)
          · have e2 : is_sz (D p) = 1 := by rw [szE, hsg]; rfl
            rw [e2] at J1 J2 J3
            exact br_f (by decide) (J3 (by omega) (fun z => by rw [hsg] at z; exact nomatch z))
        have hsz : is_sz (D p) = 1 ∨ is_sz (D p) = 2 := by unfold is_sz; split <;> simp
        by_cases c1 : p + is_sz (D p) ≤ L
        · by_cases c2 : is_sg (D p) = false → is_opd tc (D p) (D (p + 1))
          · have c3 : is_sz (D p) = 2 → is_opd tc (D p) (D (p + 1)) := by
              intro h
              apply c2
              rw [szE] at h
              cases hs : is_sg (D p)
              · rfl
              · rw [hs] at h; simp at h
            rcases ih (p + is_sz (D p)) (by omega) _ _ (fbI_s I h21 c2 c1 (by omega) hL) with ⟨q, xs', ys', hq, hfq, hX, hY⟩ | ⟨xs', ys', hI, hX, hY⟩
            · refine Or.inl ⟨q, xs', ys', hq, hfq, fun post J => sX post (fun _ h1 h2 => absurd c1 (by omega)) (fun h1 h2 h3 => absurd (c3 h1) h3) (fun _ _ => hX post J), fun post J => sY post (fun h1 h2 => absurd c1 (by omega)) (fun h1 h2 h3 => absurd (c3 h1) h3) (fun _ _ => hY post J)⟩
            · refine Or.inr ⟨xs', ys', hI, fun post J => sX post (fun _ h1 h2 => absurd c1 (by omega)) (fun h1 h2 h3 => absurd (c3 h1) h3) (fun _ _ => hX post J), fun post J => sY post (fun h1 h2 => absurd c1 (by omega)) (fun h1 h2 h3 => absurd (c3 h1) h3) (fun _ _ => hY post J)⟩
          · refine Or.inl ⟨p, xs, upd ys p 1, by omega, ⟨hp2, hsp, fun z => c2 z.2.2, bfOld⟩, fun post J => sX post (fun _ h1 h2 => absurd c1 (by omega)) (fun _ _ _ => J) (fun _ h => absurd h c2), fun post J => sY post (fun h1 h2 => absurd c1 (by omega)) (fun _ _ _ => J) (fun _ h => absurd h c2)⟩
        · refine Or.inl ⟨p, xs, upd ys p 1, by omega, ⟨hp2, hsp, fun z => c1 z.2.1, bfOld⟩, fun post J => ?_, fun post J => sY post (fun h1 h2 => J) (fun h1 h2 _ => absurd h2 (by omega)) (fun h _ => absurd h c1)⟩
          unfold wX_findByteFault_30
          simp (disch := omega) only [nI_clamp, gm_clL, gm_in, gm_inL, gm_ml, gm_al, gm_la, gm_sl, nI_add, pk_mul, gm_eqL, gm_leL, gm_ltL, gm_Lle, gm_Llt, gm_eq, gm_le, gm_lt, gm_m1, forall_eq, true_and, Nat.not_lt_zero, Nat.add_sub_cancel, gm_z2, gm_z3, gm_z9, gm_z16, gm_z18, gm_z32, gm_z36, gm_z64, gm_z1152, not_true_eq_false, not_false_eq_true, false_implies, true_implies, and_true, implies_true, eL, eD]
          refine ⟨fun z => absurd z (by omega), fun _ => ⟨fun _ => ev_sizeOf (by omega) ?_, fun z => absurd (show D p ≤ 20 by omega) z⟩⟩
          simp (disch := omega) only [nI_clamp, gm_clL, gm_in, gm_inL, gm_ml, gm_al, gm_la, gm_sl, nI_add, pk_mul, gm_eqL, gm_leL, gm_ltL, gm_Lle, gm_Llt, gm_eq, gm_le, gm_lt, gm_m1, forall_eq, true_and, Nat.not_lt_zero, Nat.add_sub_cancel, gm_z2, gm_z3, gm_z9, gm_z16, gm_z18, gm_z32, gm_z36, gm_z64, gm_z1152, not_true_eq_false, not_false_eq_true, false_implies, true_implies, and_true, implies_true]
          exact ⟨fun z => absurd z c1, fun _ => J⟩
      · refine Or.inl ⟨p, xs, upd ys p 1, by omega, ⟨hp2, hsp, fun z => h21 z.1, bfOld⟩, fun post J => ?_, fun post J => ?_⟩
        · unfold wX_findByteFault_30
          simp (disch := omega) only [nI_clamp, gm_clL, gm_in, gm_inL, gm_ml, gm_al, gm_la, gm_sl, nI_add, pk_mul, gm_eqL, gm_leL, gm_ltL, gm_Lle, gm_Llt, gm_eq, gm_le, gm_lt, gm_m1, forall_eq, true_and, Nat.not_lt_zero, Nat.add_sub_cancel, gm_z2, gm_z3, gm_z9, gm_z16, gm_z18, gm_z32, gm_z36, gm_z64, gm_z1152, not_true_eq_false, not_false_eq_true, false_implies, true_implies, and_true, implies_true, eL, eD]
          exact ⟨fun z => absurd z (by omega), fun _ => ⟨fun z => absurd z (by omega), fun _ => J⟩⟩
        · unfold wY_formFault_39
          simp (disch := omega) only [nI_clamp, gm_clL, gm_in, gm_inL, gm_ml, gm_al, gm_la, gm_sl, nI_add, pk_mul, gm_eqL, gm_leL, gm_ltL, gm_Lle, gm_Llt, gm_eq, gm_le, gm_lt, gm_m1, forall_eq, true_and, Nat.not_lt_zero, Nat.add_sub_cancel, gm_z2, gm_z3, gm_z9, gm_z16, gm_z18, gm_z32, gm_z36, gm_z64, gm_z1152, not_true_eq_false, not_false_eq_true, false_implies, true_implies, and_true, implies_true, eD, gm_nb1]
          exact ⟨fun z => absurd z (by omega), fun _ => ⟨fun z => absurd z (by omega), fun _ => J⟩⟩
end
section
def jfI (L p : Nat) (D : Nat → Nat) (ys : Nat → Int32) : Prop := ∀ q, q < p → ys q ≠ 0 → (D q = 10 ∨ D q = 11) → D (q + 1) < L ∧ ys (D (q + 1)) ≠ 0
theorem jf_both (f_typeCount f_methodCount f_linked f_faultPlace f_flowHeight f_active f_ticksLeft f_outcome f_latestResult : Int32) (a_typeAbove a_fieldSet a_methodType a_methodName a_codeLength a_bytes a_isStart a_heightAt a_kindsAt a_isWaiting a_flowKinds a_globals a_objectType a_fieldValue a_isMarked a_frameMethod a_frameAt a_frameHeight a_slots : Nat → Int32) (g_types g_methods g_place g_result g_linked g_bad g_high g_refs g_active g_ticks g_code : Int32) (b_above b_ownField b_mType b_mName b_mLength b_starts : Nat → Int32) (b_seen b_done : Nat → Int64) (b_heights b_local b_sure b_objType b_objField b_marked b_global b_fMethod b_fPc b_fHigh b_fLocal b_fEntry : Nat → Int32) {m L tc : Nat} {D : Nat → Nat} (hm : m < 8) (hL : L ≤ 32) (eL : a_codeLength m = nI L) (hD : ∀ p, p < 33 → a_bytes (m * 32 + p) = nI (D p) ∧ D p < 256) (I : fbI m L tc L D a_isStart b_starts) :
    ∀ d p, p + d = L → jfI L p D b_starts →
    (∃ q, q < 32 ∧ (q < L ∧ stt D q = true ∧ jbP L D q ∧ ∀ p, p < q → stt D p = true → ¬ jbP L D p) ∧ (∀ post : Int32 → Prop, post (nI q) → wX_findJumpFault_7 post (nI m) (nI (m * 32)) f_typeCount f_methodCount f_linked f_faultPlace f_flowHeight f_active f_ticksLeft f_outcome f_latestResult a_typeAbove a_fieldSet a_methodType a_methodName a_codeLength a_bytes a_isStart a_heightAt a_kindsAt a_isWaiting a_flowKinds a_globals a_objectType a_fieldValue a_isMarked a_frameMethod a_frameAt a_frameHeight a_slots (d + 1) (nI p)) ∧ (∀ post : Int32 → SY → Prop, post (nI q) (g_types, g_methods, g_place, g_result, g_linked, g_bad, g_high, g_refs, g_active, g_ticks, g_code, b_above, b_ownField, b_mType, b_mName, b_mLength, a_bytes, b_starts, b_seen, b_done, b_heights, b_local, b_sure, b_objType, b_objField, b_marked, b_global, b_fMethod, b_fPc, b_fHigh, b_fLocal, b_fEntry) → wY_formFault_198 post (nI m) (nI L) g_types g_methods g_place g_result g_linked g_bad g_high g_refs g_active g_ticks g_code b_above b_ownField b_mType b_mName b_mLength a_bytes b_starts b_seen b_done b_heights b_local b_sure b_objType b_objField b_marked b_global b_fMethod b_fPc b_fHigh b_fLocal b_fEntry (d + 1) (nI p))) ∨
    (jfI L L D b_starts ∧ (∀ post : Int32 → Prop, post (-1) → wX_findJumpFault_7 post (nI m) (nI (m * 32)) f_typeCount f_methodCount f_linked f_faultPlace f_flowHeight f_active f_ticksLeft f_outcome f_latestResult a_typeAbove a_fieldSet a_methodType a_methodName a_codeLength a_bytes a_isStart a_heightAt a_kindsAt a_isWaiting a_flowKinds a_globals a_objectType a_fieldValue a_isMarked a_frameMethod a_frameAt a_frameHeight a_slots (d + 1) (nI p)) ∧ (∀ post : Int32 → SY → Prop, post (-1) (g_types, g_methods, g_place, g_result, g_linked, g_bad, g_high, g_refs, g_active, g_ticks, g_code, b_above, b_ownField, b_mType, b_mName, b_mLength, a_bytes, b_starts, b_seen, b_done, b_heights, b_local, b_sure, b_objType, b_objField, b_marked, b_global, b_fMethod, b_fPc, b_fHigh, b_fLocal, b_fEntry) → wY_formFault_198 post (nI m) (nI L) g_types g_methods g_place g_result g_linked g_bad g_high g_refs g_active g_ticks g_code b_above b_ownField b_mType b_mName b_mLength a_bytes b_starts b_seen b_done b_heights b_local b_sure b_objType b_objField b_marked b_global b_fMethod b_fPc b_fHigh b_fLocal b_fEntry (d + 1) (nI p))) := by
  obtain ⟨-, i2, i3, i4, -, i6, -⟩ := I
  intro d
  induction d with
  | zero =>
    intro p hp J
    cases (show p = L by omega)
    refine Or.inr ⟨J, fun post J => ?_, fun post J => ?_⟩
    · unfold wX_findJumpFault_7
      simp (disch := omega) only [nI_clamp, gm_clL, gm_in, gm_inL, gm_ml, gm_al, gm_la, gm_sl, nI_add, pk_mul, gm_eqL, gm_leL, gm_ltL, gm_Lle, gm_Llt, gm_eq, gm_le, gm_lt, gm_m1, forall_eq, true_and, Nat.not_lt_zero, Nat.add_sub_cancel, gm_z2, gm_z3, gm_z9, gm_z16, gm_z18, gm_z32, gm_z36, gm_z64, gm_z1152, not_true_eq_false, not_false_eq_true, false_implies, true_implies, and_true, implies_true, eL]
      exact ⟨fun _ => J, fun z => absurd (Nat.le_refl _) z⟩
    · unfold wY_formFault_198
      simp (disch := omega) only [nI_clamp, gm_clL, gm_in, gm_inL, gm_ml, gm_al, gm_la, gm_sl, nI_add, pk_mul, gm_eqL, gm_leL, gm_ltL, gm_Lle, gm_Llt, gm_eq, gm_le, gm_lt, gm_m1, forall_eq, true_and, Nat.not_lt_zero, Nat.add_sub_cancel, gm_z2, gm_z3, gm_z9, gm_z16, gm_z18, gm_z32, gm_z36, gm_z64, gm_z1152, not_true_eq_false, not_false_eq_true, false_implies, true_implies, and_true, implies_true]
      exact ⟨fun _ => J, fun z => absurd (Nat.le_refl _) z⟩
  | succ d ih =>
    intro p hp J
    obtain ⟨eD, hD2⟩ := hD p (by omega)
    obtain ⟨eD1, hD3⟩ := hD (p + 1) (by omega)
    rw [show m * 32 + (p + 1) = m * 32 + p + 1 by omega] at eD1
    have es := i2 p (by omega)
    have go : (b_starts p ≠ 0 → (D p = 10 ∨ D p = 11) → D (p + 1) < L ∧ b_starts (D (p + 1)) ≠ 0) → jfI L (p + 1) D b_starts := by
      intro h q hq h1 h2
      by_cases e : q = p
      · subst e; exact h h1 h2
      · exact J q (by omega) h1 h2
    by_cases hs : b_starts p = 0
    · have sX : ∀ post : Int32 → Prop, wX_findJumpFault_7 post (nI m) (nI (m * 32)) f_typeCount f_methodCount f_linked f_faultPlace f_flowHeight f_active f_ticksLeft f_outcome f_latestResult a_typeAbove a_fieldSet a_methodType a_methodName a_codeLength a_bytes a_isStart a_heightAt a_kindsAt a_isWaiting a_flowKinds a_globals a_objectType a_fieldValue a_isMarked a_frameMethod a_frameAt a_frameHeight a_slots (d + 1) (nI (p + 1)) → wX_findJumpFault_7 post (nI m) (nI (m * 32)) f_typeCount f_methodCount f_linked f_faultPlace f_flowHeight f_active f_ticksLeft f_outcome f_latestResult a_typeAbove a_fieldSet a_methodType a_methodName a_codeLength a_bytes a_isStart a_heightAt a_kindsAt a_isWaiting a_flowKinds a_globals a_objectType a_fieldValue a_isMarked a_frameMethod a_frameAt a_frameHeight a_slots (d + 1 + 1) (nI p) := by
        intro post h
        unfold wX_findJumpFault_7
        simp (disch := omega) only [nI_clamp, gm_clL, gm_in, gm_inL, gm_ml, gm_al, gm_la, gm_sl, nI_add, pk_mul, gm_eqL, gm_leL, gm_ltL, gm_Lle, gm_Llt, gm_eq, gm_le, gm_lt, gm_m1, forall_eq, true_and, Nat.not_lt_zero, Nat.add_sub_cancel, gm_z2, gm_z3, gm_z9, gm_z16, gm_z18, gm_z32, gm_z36, gm_z64, gm_z1152, not_true_eq_false, not_false_eq_true, false_implies, true_implies, and_true, implies_true, eL, es, hs]
        exact ⟨fun z => absurd z (by omega), fun _ => h⟩
      have sY : ∀ post : Int32 → SY → Prop, wY_formFault_198 post (nI m) (nI L) g_types g_methods g_place g_result g_linked g_bad g_high g_refs g_active g_ticks g_code b_above b_ownField b_mType b_mName b_mLength a_bytes b_starts b_seen b_done b_heights b_local b_sure b_objType b_objField b_marked b_global b_fMethod b_fPc b_fHigh b_fLocal b_fEntry (d + 1) (nI (p + 1)) → wY_formFault_198 post (nI m) (nI L) g_types g_methods g_place g_result g_linked g_bad g_high g_refs g_active g_ticks g_code b_above b_ownField b_mType b_mName b_mLength a_bytes b_starts b_seen b_done b_heights b_local b_sure b_objType b_objField b_marked b_global b_fMethod b_fPc b_fHigh b_fLocal b_fEntry (d + 1 + 1) (nI p) := by
        intro post h
        unfold wY_formFault_198
        simp (disch := omega) only [nI_clamp, gm_clL, gm_in, gm_inL, gm_ml, gm_al, gm_la, gm_sl, nI_add, pk_mul, gm_eqL, gm_leL, gm_ltL, gm_Lle, gm_Llt, gm_eq, gm_le, gm_lt, gm_m1, forall_eq, true_and, Nat.not_lt_zero, Nat.add_sub_cancel, gm_z2, gm_z3, gm_z9, gm_z16, gm_z18, gm_z32, gm_z36, gm_z64, gm_z1152, not_true_eq_false, not_false_eq_true, false_implies, true_implies, and_true, implies_true, hs]
        exact ⟨fun z => absurd z (by omega), fun _ => h⟩
      rcases ih (p + 1) (by omega) (go (fun z => absurd hs z)) with ⟨q, hq, hfq, hX, hY⟩ | ⟨hJ, hX, hY⟩
      · exact Or.inl ⟨q, hq, hfq, fun post j => sX post (hX post j), fun post j => sY post (hY post j)⟩
      · exact Or.inr ⟨hJ, fun post j => sX post (hX post j), fun post j => sY post (hY post j)⟩
    · obtain ⟨k1, k2, k3, k4⟩ := i4 p (by omega) hs
      have es' : ¬ a_isStart (m * 32 + p) = 0 := by rw [es]; exact hs
      by_cases hj : D p = 10 ∨ D p = 11
      · have hz : is_sz (D p) = 2 := by rcases hj with e | e <;> rw [e] <;> rfl
        have sX : ∀ post : Int32 → Prop, ((L ≤ D (p + 1) ∨ b_starts (D (p + 1)) = 0) → post (nI p)) → (D (p + 1) < L → b_starts (D (p + 1)) ≠ 0 → wX_findJumpFault_7 post (nI m) (nI (m * 32)) f_typeCount f_methodCount f_linked f_faultPlace f_flowHeight f_active f_ticksLeft f_outcome f_latestResult a_typeAbove a_fieldSet a_methodType a_methodName a_codeLength a_bytes a_isStart a_heightAt a_kindsAt a_isWaiting a_flowKinds a_globals a_objectType a_fieldValue a_isMarked a_frameMethod a_frameAt a_frameHeight a_slots (d + 1) (nI (p + 1))) → wX_findJumpFault_7 post (nI m) (nI (m * 32)) f_typeCount f_methodCount f_linked f_faultPlace f_flowHeight f_active f_ticksLeft f_outcome f_latestResult a_typeAbove a_fieldSet a_methodType a_methodName a_codeLength a_bytes a_isStart a_heightAt a_kindsAt a_isWaiting a_flowKinds a_globals a_objectType a_fieldValue a_isMarked a_frameMethod a_frameAt a_frameHeight a_slots (d + 1 + 1) (nI p) := by
          intro post h1 h2
          have c : wX_findJumpFault_52 post (wX_findJumpFault_7 post (nI m) (nI (m * 32)) f_typeCount f_methodCount f_linked f_faultPlace f_flowHeight f_active f_ticksLeft f_outcome f_latestResult a_typeAbove a_fieldSet a_methodType a_methodName a_codeLength a_bytes a_isStart a_heightAt a_kindsAt a_isWaiting a_flowKinds a_globals a_objectType a_fieldValue a_isMarked a_frameMethod a_frameAt a_frameHeight a_slots (d + 1)) (nI m) (nI (m * 32)) (nI p) f_typeCount f_methodCount f_linked f_faultPlace f_flowHeight f_active f_ticksLeft f_outcome f_latestResult a_typeAbove a_fieldSet a_methodType a_methodName a_codeLength a_bytes a_isStart a_heightAt a_kindsAt a_isWaiting a_flowKinds a_globals a_objectType a_fieldValue a_isMarked a_frameMethod a_frameAt a_frameHeight a_slots := by
            unfold wX_findJumpFault_52
            simp (disch := omega) only [nI_clamp, gm_clL, gm_in, gm_inL, gm_ml, gm_al, gm_la, gm_sl, nI_add, pk_mul, gm_eqL, gm_leL, gm_ltL, gm_Lle, gm_Llt, gm_eq, gm_le, gm_lt, gm_m1, forall_eq, true_and, Nat.not_lt_zero, Nat.add_sub_cancel, gm_z2, gm_z3, gm_z9, gm_z16, gm_z18, gm_z32, gm_z36, gm_z64, gm_z1152, not_true_eq_false, not_false_eq_true, false_implies, true_implies, and_true, implies_true, eL, eD1]
            refine ⟨fun z => h1 (Or.inl z), fun z => ⟨vp_in_nI (by omega) (by omega), ?_⟩⟩
            rw [i2 (D (p + 1)) (by omega)]
            exact ⟨fun z2 => h1 (Or.inr z2), fun z2 => h2 (by omega) z2⟩
          unfold wX_findJumpFault_7
          simp (disch := omega) only [nI_clamp, gm_clL, gm_in, gm_inL, gm_ml, gm_al, gm_la, gm_sl, nI_add, pk_mul, gm_eqL, gm_leL, gm_ltL, gm_Lle, gm_Llt, gm_eq, gm_le, gm_lt, gm_m1, forall_eq, true_and, Nat.not_lt_zero, Nat.add_sub_cancel, gm_z2, gm_z3, gm_z9, gm_z16, gm_z18, gm_z32, gm_z36, gm_z64, gm_z1152, not_true_eq_false, not_false_eq_true, false_implies, true_implies, and_true, implies_true, eL, eD]
          refine ⟨fun z => absurd z (by omega), fun _ => br_f es' ?_⟩
          exact ⟨fun _ => c, fun z => ⟨fun _ => c, fun z2 => absurd hj (by omega)⟩⟩
        have sY : ∀ post : Int32 → SY → Prop, ((L ≤ D (p + 1) ∨ b_starts (D (p + 1)) = 0) → post (nI p) (g_types, g_methods, g_place, g_result, g_linked, g_bad, g_high, g_refs, g_active, g_ticks, g_code, b_above, b_ownField, b_mType, b_mName, b_mLength, a_bytes, b_starts, b_seen, b_done, b_heights, b_local, b_sure, b_objType, b_objField, b_marked, b_global, b_fMethod, b_fPc, b_fHigh, b_fLocal, b_fEntry)) → (D (p + 1) < L → b_starts (D (p + 1)) ≠ 0 → wY_formFault_198 post (nI m) (nI L) g_types g_methods g_place g_result g_linked g_bad g_high g_refs g_active g_ticks g_code b_above b_ownField b_mType b_mName b_mLength a_bytes b_starts b_seen b_done b_heights b_local b_sure b_objType b_objField b_marked b_global b_fMethod b_fPc b_fHigh b_fLocal b_fEntry (d + 1) (nI (p + 1))) → wY_formFault_198 post (nI m) (nI L) g_types g_methods g_place g_result g_linked g_bad g_high g_refs g_active g_ticks g_code b_above b_ownField b_mType b_mName b_mLength a_bytes b_starts b_seen b_done b_heights b_local b_sure b_objType b_objField b_marked b_global b_fMethod b_fPc b_fHigh b_fLocal b_fEntry (d + 1 + 1) (nI p) := by
          intro post h1 h2
          have c : wY_formFault_247 post (wY_formFault_198 post (nI m) (nI L) g_types g_methods g_place g_result g_linked g_bad g_high g_refs g_active g_ticks g_code b_above b_ownField b_mType b_mName b_mLength a_bytes b_starts b_seen b_done b_heights b_local b_sure b_objType b_objField b_marked b_global b_fMethod b_fPc b_fHigh b_fLocal b_fEntry (d + 1)) (nI m) (nI L) (nI p) g_types g_methods g_place g_result g_linked g_bad g_high g_refs g_active g_ticks g_code b_above b_ownField b_mType b_mName b_mLength a_bytes b_starts b_seen b_done b_heights b_local b_sure b_objType b_objField b_marked b_global b_fMethod b_fPc b_fHigh b_fLocal b_fEntry := by
            unfold wY_formFault_247
            simp (disch := omega) only [nI_clamp, gm_clL, gm_in, gm_inL, gm_ml, gm_al, gm_la, gm_sl, nI_add, pk_mul, gm_eqL, gm_leL, gm_ltL, gm_Lle, gm_Llt, gm_eq, gm_le, gm_lt, gm_m1, forall_eq, true_and, Nat.not_lt_zero, Nat.add_sub_cancel, gm_z2, gm_z3, gm_z9, gm_z16, gm_z18, gm_z32, gm_z36, gm_z64, gm_z1152, not_true_eq_false, not_false_eq_true, false_implies, true_implies, and_true, implies_true, eD1]
            refine ⟨fun z => h1 (Or.inl z), fun z => ⟨vp_in_nI (by omega) (by omega), ?_⟩⟩
            exact ⟨fun z2 => h1 (Or.inr z2), fun z2 => h2 (by omega) z2⟩
          unfold wY_formFault_198
          simp (disch := omega) only [nI_clamp, gm_clL, gm_in, gm_inL, gm_ml, gm_al, gm_la, gm_sl, nI_add, pk_mul, gm_eqL, gm_leL, gm_ltL, gm_Lle, gm_Llt, gm_eq, gm_le, gm_lt, gm_m1, forall_eq, true_and, Nat.not_lt_zero, Nat.add_sub_cancel, gm_z2, gm_z3, gm_z9, gm_z16, gm_z18, gm_z32, gm_z36, gm_z64, gm_z1152, not_true_eq_false, not_false_eq_true, false_implies, true_implies, and_true, implies_true, eD]
          refine ⟨fun z => absurd z (by omega), fun _ => br_f hs ?_⟩
          exact ⟨fun _ => c, fun z => ⟨fun _ => c, fun z2 => absurd hj (by omega)⟩⟩
        by_cases c : D (p + 1) < L ∧ b_starts (D (p + 1)) ≠ 0
        · have nc : ¬ (L ≤ D (p + 1) ∨ b_starts (D (p + 1)) = 0) := by
            rintro (z | z)
            · omega
            · exact c.2 z
          rcases ih (p + 1) (by omega) (go (fun _ _ => c)) with ⟨q, hq, hfq, hX, hY⟩ | ⟨hJ, hX, hY⟩
          · exact Or.inl ⟨q, hq, hfq, fun post j => sX post (fun z => absurd z nc) (fun _ _ => hX post j), fun post j => sY post (fun z => absurd z nc) (fun _ _ => hY post j)⟩
          · exact Or.inr ⟨hJ, fun post j => sX post (fun z => absurd z nc) (fun _ _ => hX post j), fun post j => sY post (fun z => absurd z nc) (fun _ _ => hY post j)⟩
        · have hst : ∀ r, r < L → (b_starts r ≠ 0 ↔ stt D r = true) := i6
          have jb : jbP L D p := ⟨hj, fun z => c ⟨z.1, (hst _ z.1).mpr z.2⟩⟩
          have old : ∀ q, q < p → stt D q = true → ¬ jbP L D q := fun q hq hs2 z => by
            obtain ⟨z1, z2⟩ := J q hq ((hst q (by omega)).mpr hs2) z.1
            exact z.2 ⟨z1, (hst _ z1).mp z2⟩
          exact Or.inl ⟨p, by omega, ⟨by omega, (hst p (by omega)).mp hs, jb, old⟩, fun post j => sX post (fun _ => j) (fun z1 z2 => absurd ⟨z1, z2⟩ c), fun post j => sY post (fun _ => j) (fun z1 z2 => absurd ⟨z1, z2⟩ c)⟩
      · have sX : ∀ post : Int32 → Prop, wX_findJumpFault_7 post (nI m) (nI (m * 32)) f_typeCount f_methodCount f_linked f_faultPlace f_flowHeight f_active f_ticksLeft f_outcome f_latestResult a_typeAbove a_fieldSet a_methodType a_methodName a_codeLength a_bytes a_isStart a_heightAt a_kindsAt a_isWaiting a_flowKinds a_globals a_objectType a_fieldValue a_isMarked a_frameMethod a_frameAt a_frameHeight a_slots (d + 1) (nI (p + 1)) → wX_findJumpFault_7 post (nI m) (nI (m * 32)) f_typeCount f_methodCount f_linked f_faultPlace f_flowHeight f_active f_ticksLeft f_outcome f_latestResult a_typeAbove a_fieldSet a_methodType a_methodName a_codeLength a_bytes a_isStart a_heightAt a_kindsAt a_isWaiting a_flowKinds a_globals a_objectType a_fieldValue a_isMarked a_frameMethod a_frameAt a_frameHeight a_slots (d + 1 + 1) (nI p) := by
          intro post h
          unfold wX_findJumpFault_7
          simp (disch := omega) only [nI_clamp, gm_clL, gm_in, gm_inL, gm_ml, gm_al, gm_la, gm_sl, nI_add, pk_mul, gm_eqL, gm_leL, gm_ltL, gm_Lle, gm_Llt, gm_eq, gm_le, gm_lt, gm_m1, forall_eq, true_and, Nat.not_lt_zero, Nat.add_sub_cancel, gm_z2, gm_z3, gm_z9, gm_z16, gm_z18, gm_z32, gm_z36, gm_z64, gm_z1152, not_true_eq_false, not_false_eq_true, false_implies, true_implies, and_true, implies_true, eL, eD]
          exact ⟨fun z => absurd z (by omega), fun _ => br_f es' ⟨fun z => absurd (Or.inl z) hj, fun _ => ⟨fun z => absurd (Or.inr z) hj, fun _ => h⟩⟩⟩
        have sY : ∀ post : Int32 → SY → Prop, wY_formFault_198 post (nI m) (nI L) g_types g_methods g_place g_result g_linked g_bad g_high g_refs g_active g_ticks g_code b_above b_ownField b_mType b_mName b_mLength a_bytes b_starts b_seen b_done b_heights b_local b_sure b_objType b_objField b_marked b_global b_fMethod b_fPc b_fHigh b_fLocal b_fEntry (d + 1) (nI (p + 1)) → wY_formFault_198 post (nI m) (nI L) g_types g_methods g_place g_result g_linked g_bad g_high g_refs g_active g_ticks g_code b_above b_ownField b_mType b_mName b_mLength a_bytes b_starts b_seen b_done b_heights b_local b_sure b_objType b_objField b_marked b_global b_fMethod b_fPc b_fHigh b_fLocal b_fEntry (d + 1 + 1) (nI p) := by
          intro post h
          unfold wY_formFault_198
          simp (disch := omega) only [nI_clamp, gm_clL, gm_in, gm_inL, gm_ml, gm_al, gm_la, gm_sl, nI_add, pk_mul, gm_eqL, gm_leL, gm_ltL, gm_Lle, gm_Llt, gm_eq, gm_le, gm_lt, gm_m1, forall_eq, true_and, Nat.not_lt_zero, Nat.add_sub_cancel, gm_z2, gm_z3, gm_z9, gm_z16, gm_z18, gm_z32, gm_z36, gm_z64, gm_z1152, not_true_eq_false, not_false_eq_true, false_implies, true_implies, and_true, implies_true, eD]
          exact ⟨fun z => absurd z (by omega), fun _ => br_f hs ⟨fun z => absurd (Or.inl z) hj, fun _ => ⟨fun z => absurd (Or.inr z) hj, fun _ => h⟩⟩⟩
        rcases ih (p + 1) (by omega) (go (fun _ z => absurd z hj)) with ⟨q, hq, hfq, hX, hY⟩ | ⟨hJ, hX, hY⟩
        · exact Or.inl ⟨q, hq, hfq, fun post j => sX post (hX post j), fun post j => sY post (hY post j)⟩
        · exact Or.inr ⟨hJ, fun post j => sX post (hX post j), fun post j => sY post (hY post j)⟩
/-! ===== clearing the first bytes ===== -/
theorem cl_x7 (f_typeCount f_methodCount f_linked f_faultPlace f_flowHeight f_active f_ticksLeft f_outcome f_latestResult : Int32) (a_typeAbove a_fieldSet a_methodType a_methodName a_codeLength a_bytes a_heightAt a_kindsAt a_isWaiting a_flowKinds a_globals a_objectType a_fieldValue a_isMarked a_frameMethod a_frameAt a_frameHeight a_slots : Nat → Int32) {m : Nat} (hm : m < 8) : ∀ d j, j + d = 32 → ∀ xs : Nat → Int32, (∀ q, q < j → xs (m * 32 + q) = 0) → ∃ xs' : Nat → Int32, (∀ q, q < 32 → xs' (m * 32 + q) = 0) ∧ ∀ post, (∃ n, wX_findByteFault_30 post (nI m) (nI (m * 32)) f_typeCount f_methodCount f_linked f_faultPlace f_flowHeight f_active f_ticksLeft f_outcome f_latestResult n 0 a_typeAbove a_fieldSet a_methodType a_methodName a_codeLength a_bytes xs' a_heightAt a_kindsAt a_isWaiting a_flowKinds a_globals a_objectType a_fieldValue a_isMarked a_frameMethod a_frameAt a_frameHeight a_slots) → wX_findByteFault_7 post (nI m) (nI (m * 32)) f_typeCount f_methodCount f_linked f_faultPlace f_flowHeight f_active f_ticksLeft f_outcome f_latestResult (d + 1) (nI j) a_typeAbove a_fieldSet a_methodType a_methodName a_codeLength a_bytes xs a_heightAt a_kindsAt a_isWaiting a_flowKinds a_globals a_objectType a_fieldValue a_isMarked a_frameMethod a_frameAt a_frameHeight a_slots := by
  intro d
  induction d with
  | zero =>
    intro j hj xs h
    cases (show j = 32 by omega)
    refine ⟨xs, h, fun post J => ?_⟩
    unfold wX_findByteFault_7
    exact br_t (by decide) J
  | succ d ih =>
    intro j hj xs h
    obtain ⟨xs', c1, c2⟩ := ih (j + 1) (by omega) (upd xs (m * 32 + j) 0) (fun q hq => by
      by_cases e : q = j
      · subst e; exact pk_us
      · rw [pk_un (by omega)]; exact h q (by omega))
    refine ⟨xs', c1, fun post J => ?_⟩
    unfold wX_findByteFault_7
    simp (disch := omega) only [nI_clamp, gm_clL, gm_in, gm_inL, gm_ml, gm_al, gm_la, gm_sl, nI_add, pk_mul, gm_eqL, gm_leL, gm_ltL, gm_Lle, gm_Llt, gm_eq, gm_le, gm_lt, gm_m1, forall_eq, true_and, Nat.not_lt_zero, Nat.add_sub_cancel, gm_z2, gm_z3, gm_z9, gm_z16, gm_z18, gm_z32, gm_z36, gm_z64, gm_z1152, not_true_eq_false, not_false_eq_true, false_implies, true_implies, and_true, implies_true, gm_nb0]
    exact ⟨fun z => absurd z (by omega), fun _ => c2 post J⟩
theorem cl_y12 (g_types g_methods g_place g_result g_linked g_bad g_high g_refs g_active g_ticks g_code : Int32) (b_above b_ownField b_mType b_mName b_mLength b_bytes : Nat → Int32) (b_seen b_done : Nat → Int64) (b_heights b_local b_sure b_objType b_objField b_marked b_global b_fMethod b_fPc b_fHigh b_fLocal b_fEntry : Nat → Int32) (x1 x2 x3 : Int32) : ∀ d j, j + d = 32 → ∀ ys : Nat → Int32, (∀ q, q < j → ys q = 0) → ∃ ys' : Nat → Int32, (∀ q, q < 32 → ys' q = 0) ∧ ∀ post, (((x2 = 0 → (post 0 (g_types, g_methods, g_place, g_result, g_linked, g_bad, g_high, g_refs, g_active, g_ticks, g_code, b_above, b_ownField, b_mType, b_mName, b_mLength, b_bytes, ys', b_seen, b_done, b_heights, b_local, b_sure, b_objType, b_objField, b_marked, b_global, b_fMethod, b_fPc, b_fHigh, b_fLocal, b_fEntry))) ∧ (¬ x2 = 0 → (∃ n39 : Nat, wY_formFault_39 post x1 x2 g_types g_methods g_place g_result g_linked g_bad g_high g_refs g_active g_ticks g_code n39 x3 b_above b_ownField b_mType b_mName b_mLength b_bytes ys' b_seen b_done b_heights b_local b_sure b_objType b_objField b_marked b_global b_fMethod b_fPc b_fHigh b_fLocal b_fEntry)))) → wY_formFault_12 post x1 x2 x3 g_types g_methods g_place g_result g_linked g_bad g_high g_refs g_active g_ticks g_code (d + 1) (nI j) b_above b_ownField b_mType b_mName b_mLength b_bytes ys b_seen b_done b_heights b_local b_sure b_objType b_objField b_marked b_global b_fMethod b_fPc b_fHigh b_fLocal b_fEntry := by
  intro d
  induction d with
  | zero =>
    intro j hj ys h
    cases (show j = 32 by omega)
    refine ⟨ys, h, fun post J => ?_⟩
    unfold wY_formFault_12
    exact br_t (by decide) J
  | succ d ih =>
    intro j hj ys h
    obtain ⟨ys', c1, c2⟩ := ih (j + 1) (by omega) (upd ys j 0) (fun q hq => by
      by_cases e : q = j
      · subst e; exact pk_us
      · rw [pk_un e]; exact h q (by omega))
    refine ⟨ys', c1, fun post J => ?_⟩
    unfold wY_formFault_12
    simp (disch := omega) only [nI_clamp, gm_clL, gm_in, gm_inL, gm_ml, gm_al, gm_la, gm_sl, nI_add, pk_mul, gm_eqL, gm_leL, gm_ltL, gm_Lle, gm_Llt, gm_eq, gm_le, gm_lt, gm_m1, forall_eq, true_and, Nat.not_lt_zero, Nat.add_sub_cancel, gm_z2, gm_z3, gm_z9, gm_z16, gm_z18, gm_z32, gm_z36, gm_z64, gm_z1152, not_true_eq_false, not_false_eq_true, false_implies, true_implies, and_true, implies_true, gm_nb0]
    exact ⟨fun z => absurd z (by omega), fun _ => c2 post J⟩
/-! ===== the form of a method, on both sides ===== -/
theorem fm_both (f_methodCount f_linked f_faultPlace f_flowHeight f_active f_ticksLeft f_outcome f_latestResult : Int32) (a_typeAbove a_fieldSet a_methodType a_methodName a_codeLength a_bytes a_isStart a_heightAt a_kindsAt a_isWaiting a_flowKinds a_globals a_objectType a_fieldValue a_isMarked a_frameMethod a_frameAt a_frameHeight a_slots : Nat → Int32) (g_methods g_place g_result g_linked g_bad g_high g_refs g_active g_ticks g_code : Int32) (b_above b_ownField b_mType b_mName b_mLength b_starts : Nat → Int32) (b_seen b_done : Nat → Int64) (b_heights b_local b_sure b_objType b_objField b_marked b_global b_fMethod b_fPc b_fHigh b_fLocal b_fEntry : Nat → Int32) {m L tc : Nat} {D : Nat → Nat} (hm : m < 8) (hL : L ≤ 32) (ht : tc ≤ 5) (eL : a_codeLength m = nI L) (eL2 : b_mLength m = nI L) (hD : ∀ p, p < 33 → a_bytes (m * 32 + p) = nI (D p) ∧ D p < 256) :
    (∃ q xs ys, q < 32 ∧ fqP tc L D q ∧ (∀ post : Int32 → SX → Prop, post (nI q) (nI tc, f_methodCount, f_linked, f_faultPlace, f_flowHeight, f_active, f_ticksLeft, f_outcome, f_latestResult, a_typeAbove, a_fieldSet, a_methodType, a_methodName, a_codeLength, a_bytes, xs, a_heightAt, a_kindsAt, a_isWaiting, a_flowKinds, a_globals, a_objectType, a_fieldValue, a_isMarked, a_frameMethod, a_frameAt, a_frameHeight, a_slots) → wpX_findFormFault post (nI tc, f_methodCount, f_linked, f_faultPlace, f_flowHeight, f_active, f_ticksLeft, f_outcome, f_latestResult, a_typeAbove, a_fieldSet, a_methodType, a_methodName, a_codeLength, a_bytes, a_isStart, a_heightAt, a_kindsAt, a_isWaiting, a_flowKinds, a_globals, a_objectType, a_fieldValue, a_isMarked, a_frameMethod, a_frameAt, a_frameHeight, a_slots) (nI m)) ∧ (∀ post : Int32 → SY → Prop, post (nI q) (nI tc, g_methods, g_place, g_result, g_linked, g_bad, g_high, g_refs, g_active, g_ticks, g_code, b_above, b_ownField, b_mType, b_mName, b_mLength, a_bytes, ys, b_seen, b_done, b_heights, b_local, b_sure, b_objType, b_objField, b_marked, b_global, b_fMethod, b_fPc, b_fHigh, b_fLocal, b_fEntry) → wpY_formFault post (nI tc, g_methods, g_place, g_result, g_linked, g_bad, g_high, g_refs, g_active, g_ticks, g_code, b_above, b_ownField, b_mType, b_mName, b_mLength, a_bytes, b_starts, b_seen, b_done, b_heights, b_local, b_sure, b_objType, b_objField, b_marked, b_global, b_fMethod, b_fPc, b_fHigh, b_fLocal, b_fEntry) (nI m))) ∨
    (∃ S xs ys, fo_OK tc L D S ∧ fnP tc L D ∧ (∀ post : Int32 → SX → Prop, post (-1) (nI tc, f_methodCount, f_linked, f_faultPlace, f_flowHeight, f_active, f_ticksLeft, f_outcome, f_latestResult, a_typeAbove, a_fieldSet, a_methodType, a_methodName, a_codeLength, a_bytes, xs, a_heightAt, a_kindsAt, a_isWaiting, a_flowKinds, a_globals, a_objectType, a_fieldValue, a_isMarked, a_frameMethod, a_frameAt, a_frameHeight, a_slots) → wpX_findFormFault post (nI tc, f_methodCount, f_linked, f_faultPlace, f_flowHeight, f_active, f_ticksLeft, f_outcome, f_latestResult, a_typeAbove, a_fieldSet, a_methodType, a_methodName, a_codeLength, a_bytes, a_isStart, a_heightAt, a_kindsAt, a_isWaiting, a_flowKinds, a_globals, a_objectType, a_fieldValue, a_isMarked, a_frameMethod, a_frameAt, a_frameHeight, a_slots) (nI m)) ∧ (∀ post : Int32 → SY → Prop, post (-1) (nI tc, g_methods, g_place, g_result, g_linked, g_bad, g_high, g_refs, g_active, g_ticks, g_code, b_above, b_ownField, b_mType, b_mName, b_mLength, a_bytes, ys, b_seen, b_done, b_heights, b_local, b_sure, b_objType, b_objField, b_marked, b_global, b_fMethod, b_fPc, b_fHigh, b_fLocal, b_fEntry) → wpY_formFault post (nI tc, g_methods, g_place, g_result, g_linked, g_bad, g_high, g_refs, g_active, g_ticks, g_code, b_above, b_ownField, b_mType, b_mName, b_mLength, a_bytes, b_starts, b_seen, b_done, b_heights, b_local, b_sure, b_objType, b_objField, b_marked, b_global, b_fMethod, b_fPc, b_fHigh, b_fLocal, b_fEntry) (nI m))) := by
  obtain ⟨ys0, y1, y2⟩ := cl_y12 (nI tc) g_methods g_place g_result g_linked g_bad g_high g_refs g_active g_ticks g_code b_above b_ownField b_mType b_mName b_mLength a_bytes b_seen b_done b_heights b_local b_sure b_objType b_objField b_marked b_global b_fMethod b_fPc b_fHigh b_fLocal b_fEntry (nI m) (nI L) 0 32 0 rfl b_starts (fun q z => absurd z (by omega))
  have hYs : ∀ post : Int32 → SY → Prop, (((nI L = 0 → (post 0 (nI tc, g_methods, g_place, g_result, g_linked, g_bad, g_high, g_refs, g_active, g_ticks, g_code, b_above, b_ownField, b_mType, b_mName, b_mLength, a_bytes, ys0, b_seen, b_done, b_heights, b_local, b_sure, b_objType, b_objField, b_marked, b_global, b_fMethod, b_fPc, b_fHigh, b_fLocal, b_fEntry))) ∧ (¬ nI L = 0 → (∃ n39 : Nat, wY_formFault_39 post (nI m) (nI L) (nI tc) g_methods g_place g_result g_linked g_bad g_high g_refs g_active g_ticks g_code n39 0 b_above b_ownField b_mType b_mName b_mLength a_bytes ys0 b_seen b_done b_heights b_local b_sure b_objType b_objField b_marked b_global b_fMethod b_fPc b_fHigh b_fLocal b_fEntry)))) → wpY_formFault post (nI tc, g_methods, g_place, g_result, g_linked, g_bad, g_high, g_refs, g_active, g_ticks, g_code, b_above, b_ownField, b_mType, b_mName, b_mLength, a_bytes, b_starts, b_seen, b_done, b_heights, b_local, b_sure, b_objType, b_objField, b_marked, b_global, b_fMethod, b_fPc, b_fHigh, b_fLocal, b_fEntry) (nI m) := by
    intro post J
    unfold wpY_formFault
    refine ⟨vp_in_nI hm (by omega), nm_r (by rw [nI_clamp (by omega), eL2]) ⟨33, y2 post J⟩⟩
  by_cases hL0 : L = 0
  · subst hL0
    refine Or.inl ⟨0, a_isStart, ys0, by omega, Or.inl ⟨rfl, rfl⟩, fun post J => ?_, fun post J => hYs post (br_t rfl J)⟩
    unfold wpX_findFormFault
    refine ⟨vp_in_nI hm (by omega), br_t (by rw [nI_clamp (by omega), eL]; rfl) J⟩
  · have nL : ¬ nI L = 0 := nI_ne0 (by omega) (by omega)
    obtain ⟨xs0, x1, x2⟩ := cl_x7 (nI tc) f_methodCount f_linked f_faultPlace f_flowHeight f_active f_ticksLeft f_outcome f_latestResult a_typeAbove a_fieldSet a_methodType a_methodName a_codeLength a_bytes a_heightAt a_kindsAt a_isWaiting a_flowKinds a_globals a_objectType a_fieldValue a_isMarked a_frameMethod a_frameAt a_frameHeight a_slots hm 32 0 rfl a_isStart (fun q z => absurd z (by omega))
    have hXs : ∀ post : Int32 → SX → Prop, (∃ n, wX_findByteFault_30 post (nI m) (nI (m * 32)) (nI tc) f_methodCount f_linked f_faultPlace f_flowHeight f_active f_ticksLeft f_outcome f_latestResult n 0 a_typeAbove a_fieldSet a_methodType a_methodName a_codeLength a_bytes xs0 a_heightAt a_kindsAt a_isWaiting a_flowKinds a_globals a_objectType a_fieldValue a_isMarked a_frameMethod a_frameAt a_frameHeight a_slots) → wpX_findByteFault post (nI tc, f_methodCount, f_linked, f_faultPlace, f_flowHeight, f_active, f_ticksLeft, f_outcome, f_latestResult, a_typeAbove, a_fieldSet, a_methodType, a_methodName, a_codeLength, a_bytes, a_isStart, a_heightAt, a_kindsAt, a_isWaiting, a_flowKinds, a_globals, a_objectType, a_fieldValue, a_isMarked, a_frameMethod, a_frameAt, a_frameHeight, a_slots) (nI m) := by
      intro post J
      unfold wpX_findByteFault
      exact nm_r (pk_mul m 32) ⟨33, x2 post J⟩
    have hXf : ∀ post : Int32 → SX → Prop, wpX_findByteFault (fun r u => match u with | (f_typeCount1, f_methodCount1, f_linked1, f_faultPlace1, f_flowHeight1, f_active1, f_ticksLeft1, f_outcome1, f_latestResult1, a_typeAbove1, a_fieldSet1, a_methodType1, a_methodName1, a_codeLength1, a_bytes1, a_isStart1, a_heightAt1, a_kindsAt1, a_isWaiting1, a_flowKinds1, a_globals1, a_objectType1, a_fieldValue1, a_isMarked1, a_frameMethod1, a_frameAt1, a_frameHeight1, a_slots1) => (((r = (-1) → (wpX_findJumpFault (fun r_33 => (post r_33 (f_typeCount1, f_methodCount1, f_linked1, f_faultPlace1, f_flowHeight1, f_active1, f_ticksLeft1, f_outcome1, f_latestResult1, a_typeAbove1, a_fieldSet1, a_methodType1, a_methodName1, a_codeLength1, a_bytes1, a_isStart1, a_heightAt1, a_kindsAt1, a_isWaiting1, a_flowKinds1, a_globals1, a_objectType1, a_fieldValue1, a_isMarked1, a_frameMethod1, a_frameAt1, a_frameHeight1, a_slots1))) (f_typeCount1, f_methodCount1, f_linked1, f_faultPlace1, f_flowHeight1, f_active1, f_ticksLeft1, f_outcome1, f_latestResult1, a_typeAbove1, a_fieldSet1, a_methodType1, a_methodName1, a_codeLength1, a_bytes1, a_isStart1, a_heightAt1, a_kindsAt1, a_isWaiting1, a_flowKinds1, a_globals1, a_objectType1, a_fieldValue1, a_isMarked1, a_frameMethod1, a_frameAt1, a_frameHeight1, a_slots1) (nI m))) ∧ (¬ r = (-1) → (post r (f_typeCount1, f_methodCount1, f_linked1, f_faultPlace1, f_flowHeight1, f_active1, f_ticksLeft1, f_outcome1, f_latestResult1, a_typeAbove1, a_fieldSet1, a_methodType1, a_methodName1, a_codeLength1, a_bytes1, a_isStart1, a_heightAt1, a_kindsAt1, a_isWaiting1, a_flowKinds1, a_globals1, a_objectType1, a_fieldValue1, a_isMarked1, a_frameMethod1, a_frameAt1, a_frameHeight1, a_slots1)))))) (nI tc, f_methodCount, f_linked, f_faultPlace, f_flowHeight, f_active, f_ticksLeft, f_outcome, f_latestResult, a_typeAbove, a_fieldSet, a_methodType, a_methodName, a_codeLength, a_bytes, a_isStart, a_heightAt, a_kindsAt, a_isWaiting, a_flowKinds, a_globals, a_objectType, a_fieldValue, a_isMarked, a_frameMethod, a_frameAt, a_frameHeight, a_slots) (nI m) → wpX_findFormFault post (nI tc, f_methodCount, f_linked, f_faultPlace, f_flowHeight, f_active, f_ticksLeft, f_outcome, f_latestResult, a_typeAbove, a_fieldSet, a_methodType, a_methodName, a_codeLength, a_bytes, a_isStart, a_heightAt, a_kindsAt, a_isWaiting, a_flowKinds, a_globals, a_objectType, a_fieldValue, a_isMarked, a_frameMethod, a_frameAt, a_frameHeight, a_slots) (nI m) := by
      intro post J
      unfold wpX_findFormFault
      exact ⟨vp_in_nI hm (by omega), br_f (by rw [nI_clamp (by omega), eL]; exact nL) J⟩
    have I0 : fbI m L tc 0 D xs0 ys0 := ⟨by omega, fun q hq => by rw [x1 q hq, y1 q hq], fun q _ hq => y1 q hq, fun q z => absurd z (by omega), Or.inl rfl, fun q z => absurd z (by omega), rfl⟩
    rcases fb_both f_methodCount f_linked f_faultPlace f_flowHeight f_active f_ticksLeft f_outcome f_latestResult a_typeAbove a_fieldSet a_methodType a_methodName a_codeLength a_bytes a_heightAt a_kindsAt a_isWaiting a_flowKinds a_globals a_objectType a_fieldValue a_isMarked a_frameMethod a_frameAt a_frameHeight a_slots g_methods g_place g_result g_linked g_bad g_high g_refs g_active g_ticks g_code b_above b_ownField b_mType b_mName b_mLength b_seen b_done b_heights b_local b_sure b_objType b_objField b_marked b_global b_fMethod b_fPc b_fHigh b_fLocal b_fEntry hm hL ht eL hD L 0 (by omega) xs0 ys0 I0 with ⟨q, xs', ys', hq, hfq, hX, hY⟩ | ⟨xs', ys', hI, hX, hY⟩
    · refine Or.inl ⟨q, xs', ys', hq, Or.inr (Or.inl ⟨by omega, hfq⟩), fun post J => hXf post (hXs _ ⟨L + 1, hX _ (br_f ?_ J)⟩), fun post J => hYs post (br_f nL ⟨L + 1, hY post J⟩)⟩
      rw [gm_m1 (by omega)]; exact id
    · have nbf : ∀ p, p < L → stt D p = true → ¬ bfP tc L D p := fun p hp hs z => by
        obtain ⟨b1, b2, b3, b4⟩ := hI.2.2.2.1 p hp ((hI.2.2.2.2.2.1 p hp).mpr hs)
        exact z ⟨b1, b3, b2⟩
      rcases jf_both (nI tc) f_methodCount f_linked f_faultPlace f_flowHeight f_active f_ticksLeft f_outcome f_latestResult a_typeAbove a_fieldSet a_methodType a_methodName a_codeLength a_bytes xs' a_heightAt a_kindsAt a_isWaiting a_flowKinds a_globals a_objectType a_fieldValue a_isMarked a_frameMethod a_frameAt a_frameHeight a_slots (nI tc) g_methods g_place g_result g_linked g_bad g_high g_refs g_active g_ticks g_code b_above b_ownField b_mType b_mName b_mLength ys' b_seen b_done b_heights b_local b_sure b_objType b_objField b_marked b_global b_fMethod b_fPc b_fHigh b_fLocal b_fEntry hm hL eL hD hI L 0 (by omega) (fun q z => absurd z (by omega)) with ⟨q, hq, hfq, jX, jY⟩ | ⟨hJ, jX, jY⟩
      · refine Or.inl ⟨q, xs', ys', hq, Or.inr (Or.inr ⟨by omega, nbf, hfq⟩), fun post J => hXf post (hXs _ ⟨L + 1, hX _ (br_t rfl ?_)⟩), fun post J => hYs post (br_f nL ⟨L + 1, hY post ⟨L + 1, jY post J⟩⟩)⟩
        unfold wpX_findJumpFault
        exact nm_r (pk_mul m 32) ⟨L + 1, jX _ J⟩
      · have hst : ∀ r, r < L → (ys' r ≠ 0 ↔ stt D r = true) := hI.2.2.2.2.2.1
        refine Or.inr ⟨fun p => ys' p ≠ 0, xs', ys', ?_, ⟨by omega, nbf, fun p hp hs z => ?_⟩, fun post J => hXf post (hXs _ ⟨L + 1, hX _ (br_t rfl ?_)⟩), fun post J => hYs post (br_f nL ⟨L + 1, hY post ⟨L + 1, jY post J⟩⟩)⟩
        · obtain ⟨-, i2, i3, i4, i5, -⟩ := hI
          refine ⟨by omega, hL, ?_, fun p hp hs => ?_⟩
          · rcases i5 with z | z
            · exact absurd z hL0
            · exact z
          · obtain ⟨k1, k2, k3, k4⟩ := i4 p hp hs
            exact ⟨k1, k3, k4, k2, hJ p hp hs⟩
        · obtain ⟨z1, z2⟩ := hJ p hp ((hst p hp).mpr hs) z.1
          exact z.2 ⟨z1, (hst _ z1).mp z2⟩
        · unfold wpX_findJumpFault
          exact nm_r (pk_mul m 32) ⟨L + 1, jX _ J⟩
end
section
/-! ===== numbers of ways ===== -/
theorem wy_dec {p r a b c d : Nat} (hr : r < 32) (ha : a < 2) (hb : b < 2) (hc : c < 3) (hd : d < 3) : wy_p (wy_e p r a b c d) = p ∧ wy_r (wy_e p r a b c d) = r ∧ wy_c (wy_e p r a b c d) 0 = a ∧ wy_c (wy_e p r a b c d) 1 = b ∧ wy_c (wy_e p r a b c d) 2 = c ∧ wy_c (wy_e p r a b c d) 3 = d := by
  have e0 : wy_c (wy_e p r a b c d) 0 = wy_e p r a b c d / 18 % 2 := rfl
  have e1 : wy_c (wy_e p r a b c d) 1 = wy_e p r a b c d / 9 % 2 := rfl
  have e2 : wy_c (wy_e p r a b c d) 2 = wy_e p r a b c d / 3 % 3 := rfl
  have e3 : wy_c (wy_e p r a b c d) 3 = wy_e p r a b c d % 3 := rfl
  rw [e0, e1, e2, e3]
  unfold wy_p wy_r wy_e
  refine ⟨?_, ?_, ?_, ?_, ?_, ?_⟩ <;> omega
theorem wy_c4 (st j : Nat) : wy_c st (4 + j) = wy_r st / 2 ^ j % 2 := by
  unfold wy_c
  rw [if_neg (by omega), if_neg (by omega), if_neg (by omega), if_neg (by omega), Nat.add_sub_cancel_left]
theorem wy_cB (st s : Nat) : wy_c st s < 3 := by
  unfold wy_c
  split
  · omega
  split
  · omega
  split
  · omega
  split
  · omega
  · have := Nat.mod_lt (wy_r st / 2 ^ (s - 4)) (by decide : 2 > 0)
    omega
theorem wy_cB2 (st s : Nat) (h : s < 2 ∨ 4 ≤ s) : wy_c st s < 2 := by
  unfold wy_c
  split
  · omega
  split
  · omega
  split
  · omega
  split
  · omega
  · exact Nat.mod_lt _ (by decide)
theorem wy_rB (st : Nat) : wy_r st < 32 := Nat.mod_lt _ (by decide)
theorem wy_enc (st : Nat) : st = wy_e (wy_p st) (wy_r st) (wy_c st 0) (wy_c st 1) (wy_c st 2) (wy_c st 3) := by
  have e0 : wy_c st 0 = st / 18 % 2 := rfl
  have e1 : wy_c st 1 = st / 9 % 2 := rfl
  have e2 : wy_c st 2 = st / 3 % 3 := rfl
  have e3 : wy_c st 3 = st % 3 := rfl
  rw [e0, e1, e2, e3]
  unfold wy_p wy_r wy_e
  omega
theorem wy_bits : ∀ h1, h1 < 6 → ∀ r, r < 32 → ∀ g, g < 2 → ∀ j, j < h1 → (r % 2 ^ h1 + g * 2 ^ h1) / 2 ^ j % 2 = r / 2 ^ j % 2 := by decide +kernel
theorem wy_bit1 : ∀ h1, h1 < 6 → ∀ r, r < 32 → ∀ g, g < 2 → (r % 2 ^ h1 + g * 2 ^ h1) / 2 ^ h1 % 2 = g := by decide +kernel
theorem wy_bitL : ∀ h1, h1 < 6 → ∀ r, r < 32 → ∀ g, g < 2 → r % 2 ^ h1 + g * 2 ^ h1 < 2 ^ (h1 + 1) := by decide +kernel
theorem wy_bitM : ∀ h1, h1 < 6 → ∀ r, r < 32 → r % 2 ^ h1 < 2 ^ h1 := by decide +kernel
theorem wy_p5 : ∀ h, h < 6 → 2 ^ h ≤ 32 := by decide
/-! ===== tables ===== -/
theorem is_gk2 (b : Nat) : ∀ {o : Nat}, o < 21 → is_gv o = true → o ≠ 1 → is_gk o b = 2 ∨ is_gk o b = 4 := by
  intro o ho hg h1
  have hv : is_vk b = 2 ∨ is_vk b = 4 := by unfold is_vk; split <;> simp
  rcases (by omega : o = 0 ∨ o = 1 ∨ o = 2 ∨ o = 3 ∨ o = 4 ∨ o = 5 ∨ o = 6 ∨ o = 7 ∨ o = 8 ∨ o = 9 ∨ o = 10 ∨ o = 11 ∨ o = 12 ∨ o = 13 ∨ o = 14 ∨ o = 15 ∨ o = 16 ∨ o = 17 ∨ o = 18 ∨ o = 19 ∨ o = 20) with rfl | rfl | rfl | rfl | rfl | rfl | rfl | rfl | rfl | rfl | rfl | rfl | rfl | rfl | rfl | rfl | rfl | rfl | rfl | rfl | rfl
  · exact Or.inl rfl
  · exact absurd rfl h1
  · exact absurd hg (by decide)
  · exact absurd hg (by decide)
  · exact Or.inl rfl
  · exact Or.inl rfl
  · exact Or.inl rfl
  · exact Or.inl rfl
  · exact Or.inl rfl
  · exact Or.inl rfl
  · exact absurd hg (by decide)
  · exact absurd hg (by decide)
  · exact Or.inr rfl
  · exact Or.inr rfl
  · exact hv
  · exact absurd hg (by decide)
  · exact hv
  · exact Or.inl rfl
  · exact absurd hg (by decide)
  · exact Or.inr rfl
  · exact absurd hg (by decide)
theorem kd_2 : ∀ c, c < 3 → kd_in c 2 → c = 0 := by unfold kd_in; decide
theorem kd_4 : ∀ c, c < 3 → kd_in c 4 → c = 1 := by unfold kd_in; decide
theorem kd_i2 : kd_in 0 2 := by unfold kd_in; decide
theorem kd_i4 : kd_in 1 4 := by unfold kd_in; decide
theorem kd_or : ∀ a, a < 8 → ∀ b, b < 8 → ∀ c, c < 3 → (kd_in c (a ||| b) ↔ (kd_in c a ∨ kd_in c b)) := by unfold kd_in; decide +kernel
theorem kd_orL : ∀ a, a < 8 → ∀ b, b < 8 → a ||| b < 8 := by decide +kernel
theorem kd_pos : ∀ a, a < 8 → 0 < a → ∃ c, c < 3 ∧ kd_in c a := by unfold kd_in; decide +kernel
theorem kd_posI : ∀ a, a < 8 → ∀ c, c < 3 → kd_in c a → 0 < a := by unfold kd_in; decide +kernel
theorem kd_new : ∀ a, a < 8 → ∀ b, b < 8 → a ||| b ≠ a → ∃ c, c < 3 ∧ kd_in c b ∧ ¬ kd_in c a := by unfold kd_in; decide +kernel
theorem kd_is4 : ∀ a, a < 8 → 0 < a → (∀ c, c < 3 → kd_in c a → c = 1) → a = 4 := by unfold kd_in; decide +kernel
theorem kd_ext : ∀ a, a < 8 → ∀ b, b < 8 → (∀ c, c < 3 → (kd_in c a → kd_in c b)) → a ||| b = b := by unfold kd_in; decide +kernel
/-! ===== one step of a way ===== -/
theorem wy_gB {o b st : Nat} (hb : o = 1 → b < 4) (h1 : o = 1 → wy_c st b ≠ 2) : wy_g o b st < 2 := by
  unfold wy_g
  split
  · rename_i e
    have := wy_cB st b
    have := h1 e
    omega
  · split <;> omega
theorem wy_nlB {o b st h nm : Nat} (hok : wy_ok o b nm st h) : wy_nl o b st h 0 < 2 ∧ wy_nl o b st h 1 < 2 ∧ wy_nl o b st h 2 < 3 ∧ wy_nl o b st h 3 < 3 := by
  have ht : o = 2 → wy_c st (3 + h) < 2 := by
    intro e
    apply wy_cB2
    have := hok.1
    rw [e] at this
    have : is_tk 2 = 1 := rfl
    omega
  have a : ∀ s, s < 2 → wy_nl o b st h s < 2 := by
    intro s hs
    unfold wy_nl
    split
    · rename_i e; exact ht e.1
    · exact wy_cB2 st s (Or.inl hs)
  have a3 : ∀ s, wy_nl o b st h s < 3 := by
    intro s
    unfold wy_nl
    split
    · exact wy_cB _ _
    · exact wy_cB _ _
  exact ⟨a 0 (by omega), a 1 (by omega), a3 2, a3 3⟩
theorem wy_nrB {o b st h nm : Nat} (hb : o = 1 → b < 4) (hok : wy_ok o b nm st h) (h5 : h ≤ 5) : wy_nr o b st h < 2 ^ wy_h o h ∧ wy_h o h ≤ 5 := by
  obtain ⟨k1, k2, k3, k4, k5⟩ := hok
  unfold wy_nr wy_h
  cases hg : is_gv o
  · simp only [Bool.false_eq_true, if_false, Nat.add_zero]
    exact ⟨wy_bitM _ (by omega) _ (wy_rB st), by omega⟩
  · simp only [if_true]
    exact ⟨wy_bitL _ (by omega) _ (wy_rB st) _ (wy_gB hb k4), by have := k5 hg; omega⟩
theorem wy_nxD {o b st h nm p' : Nat} (hb : o = 1 → b < 4) (hok : wy_ok o b nm st h) (h5 : h ≤ 5) : wy_p (wy_nx o b st h p') = p' ∧ wy_r (wy_nx o b st h p') = wy_nr o b st h ∧ ∀ s, s < 4 → wy_c (wy_nx o b st h p') s = wy_nl o b st h s := by
  obtain ⟨a0, a1, a2, a3⟩ := wy_nlB hok
  obtain ⟨b1, b2⟩ := wy_nrB hb hok h5
  have b3 := wy_p5 (wy_h o h) (by omega)
  obtain ⟨c1, c2, c3, c4, c5, c6⟩ := wy_dec (p := p') (r := wy_nr o b st h) (by omega) a0 a1 a2 a3
  refine ⟨c1, c2, fun s hs => ?_⟩
  rcases (by omega : s = 0 ∨ s = 1 ∨ s = 2 ∨ s = 3) with rfl | rfl | rfl | rfl
  · exact c3
  · exact c4
  · exact c5
  · exact c6
theorem wy_nxC {o b st h nm p' s : Nat} (hb : o = 1 → b < 4) (hok : wy_ok o b nm st h) (h5 : h ≤ 5) (hs : s < 4 + wy_h o h) : wy_c (wy_nx o b st h p') s = if s < 4 then wy_nl o b st h s else if s < 4 + (h - is_tk o) then wy_c st s else wy_g o b st := by
  obtain ⟨c1, c2, c3⟩ := wy_nxD (p' := p') hb hok h5
  split
  · rename_i z; exact c3 s z
  · rename_i z
    obtain ⟨j, rfl⟩ : ∃ j, s = 4 + j := ⟨s - 4, by omega⟩
    rw [wy_c4, c2, wy_c4]
    unfold wy_nr
    unfold wy_h at hs
    obtain ⟨k1, k2, k3, k4, k5⟩ := hok
    cases hg : is_gv o
    · rw [hg] at hs
      simp only [Bool.false_eq_true, if_false, Nat.add_zero] at hs ⊢
      rw [if_pos (by omega)]
      have := wy_bits (h - is_tk o) (by omega) (wy_r st) (wy_rB st) 0 (by omega) j (by omega)
      rw [Nat.zero_mul, Nat.add_zero] at this
      exact this
    · rw [hg] at hs
      simp only [if_true] at hs ⊢
      split
      · exact wy_bits _ (by omega) _ (wy_rB st) _ (wy_gB hb k4) j (by omega)
      · have e : j = h - is_tk o := by omega
        rw [e]
        exact wy_bit1 _ (by omega) _ (wy_rB st) _ (wy_gB hb k4)
/-! ===== ways: induction, validity ===== -/
theorem way_i (D : Nat → Nat) (L nm : Nat) : Way D L nm (wy_i nm) 0 := fun _ h0 _ => h0
theorem way_s {D : Nat → Nat} {L nm st h p' : Nat} (w : Way D L nm st h) (hok : wy_ok (D (wy_p st)) (D (wy_p st + 1)) nm st h) (hs : is_su (D (wy_p st)) (D (wy_p st + 1)) (wy_p st) p') (hp : p' < L) : Way D L nm (wy_nx (D (wy_p st)) (D (wy_p st + 1)) st h p') (wy_h (D (wy_p st)) h) := fun P h0 h1 => h1 st h p' (w P h0 h1) hok hs hp
theorem wy_iD {nm : Nat} : wy_p (wy_i nm) = 0 ∧ wy_r (wy_i nm) = 0 ∧ wy_c (wy_i nm) 0 = 1 ∧ wy_c (wy_i nm) 1 = (if nm / 4 % 2 = 0 then 0 else 1) ∧ wy_c (wy_i nm) 2 = 2 ∧ wy_c (wy_i nm) 3 = 2 := wy_dec (by omega) (by omega) (by split <;> omega) (by omega) (by omega)
def WV (L : Nat) (S : Nat → Prop) (st h : Nat) : Prop := wy_p st < L ∧ S (wy_p st) ∧ h ≤ 5 ∧ wy_r st < 2 ^ h
theorem is_opd_1 {tc o b : Nat} (h : is_opd tc o b) : o = 1 → b < 4 := fun e => h.1 (Or.inl e)
theorem fo_b4 {tc L p : Nat} {D : Nat → Nat} {S : Nat → Prop} (F : fo_OK tc L D S) (hp : p < L) (hs : S p) : (D p = 1 → D (p + 1) < 4) ∧ (D p = 2 → D (p + 1) < 4) := by
  obtain ⟨-, -, -, h⟩ := F
  obtain ⟨a1, a2, a3, a4, a5⟩ := h p hp hs
  constructor
  · intro e
    rw [e] at a4
    exact (a4 rfl).1 (Or.inl rfl)
  · intro e
    rw [e] at a4
    exact (a4 rfl).1 (Or.inr rfl)
theorem fo_su {tc L p p' : Nat} {D : Nat → Nat} {S : Nat → Prop} (F : fo_OK tc L D S) (hp : p < L) (hs : S p) (h : is_su (D p) (D (p + 1)) p p') (hp' : p' < L) : S p' := by
  obtain ⟨-, -, -, hh⟩ := F
  obtain ⟨a1, a2, a3, a4, a5⟩ := hh p hp hs
  rcases h with ⟨h1, rfl⟩ | ⟨h1, h2, rfl⟩
  · exact (a5 h1).2
  · exact a3 hp'
theorem way_v {tc L nm st h : Nat} {D : Nat → Nat} {S : Nat → Prop} (F : fo_OK tc L D S) (w : Way D L nm st h) : WV L S st h := by
  refine w (WV L S) ?_ (fun st h p' v hok hs hp => ?_)
  · obtain ⟨i1, i2, -⟩ := wy_iD (nm := nm)
    refine ⟨by rw [i1]; exact F.1, by rw [i1]; exact F.2.2.1, by omega, by rw [i2]; decide⟩
  · obtain ⟨v1, v2, v3, v4⟩ := v
    have hb := (fo_b4 F v1 v2).1
    obtain ⟨c1, c2, -⟩ := wy_nxD (p' := p') hb hok v3
    obtain ⟨b1, b2⟩ := wy_nrB hb hok v3
    exact ⟨by rw [c1]; exact hp, by rw [c1]; exact fo_su F v1 v2 hs hp, b2, by rw [c2]; exact b1⟩
/-! ===== sets of kinds against ways ===== -/
theorem xk_A {o b nm st h p' : Nat} {k : Nat → Nat} (ho : o < 21) (hb : o = 1 → b < 4) (h5 : h ≤ 5) (hk : ∀ s, s < 4 + h → kd_in (wy_c st s) (k s)) (hx : xk_ok o b nm k h) : wy_ok o b nm st h ∧ ∀ s, s < 4 + wy_h o h → kd_in (wy_c (wy_nx o b st h p') s) (xk_t o b k h s) := by
  obtain ⟨x1, x2, x3, x4, x5⟩ := hx
  have hok : wy_ok o b nm st h := ⟨x1, fun z => x2 z _ (wy_cB _ _) (hk _ (by omega)), fun z => x3 z _ (wy_cB _ _) (hk _ (by omega)), fun z e => x4 z (by have := hk b (by have := hb z; omega); rw [e] at this; exact this), x5⟩
  refine ⟨hok, fun s hs => ?_⟩
  rw [wy_nxC hb hok h5 hs]
  unfold xk_t
  by_cases h4 : s < 4
  · rw [if_pos h4, if_pos h4]
    unfold wy_nl
    by_cases e : o = 2 ∧ s = b
    · rw [if_pos e, if_pos e]; exact hk _ (by omega)
    · rw [if_neg e, if_neg e]; exact hk _ (by omega)
  · rw [if_neg h4, if_neg h4]
    by_cases h2 : s < 4 + (h - is_tk o)
    · rw [if_pos h2, if_pos h2]; exact hk _ (by omega)
    · rw [if_neg h2, if_neg h2]
      unfold wy_g
      by_cases e : o = 1
      · rw [if_pos e, if_pos e]; exact hk _ (by have := hb e; omega)
      · rw [if_neg e, if_neg e]
        have hg : is_gv o = true := by
          unfold wy_h at hs
          cases hg : is_gv o
          · rw [hg] at hs; simp at hs; omega
          · rfl
        rcases is_gk2 b ho hg e with z | z
        · rw [z]; exact kd_i2
        · rw [z]; exact kd_i4
theorem xk_B {o b nm h : Nat} {k : Nat → Nat} (hb : o = 1 → b < 4) (hx : ¬ xk_ok o b nm k h) : (∃ s c, s < 4 + h ∧ c < 3 ∧ kd_in c (k s) ∧ ∀ st, wy_c st s = c → ¬ wy_ok o b nm st h) ∨ (∀ st, ¬ wy_ok o b nm st h) := by
  by_cases x1 : is_tk o ≤ h
  · by_cases x5 : is_gv o = true → h - is_tk o < 5
    · left
      by_cases x2 : 1 ≤ is_tk o → kd_sub (k (3 + h)) (is_n1 o b nm)
      · by_cases x3 : is_tk o = 2 → kd_sub (k (2 + h)) (is_n2 o)
        · by_cases x4 : o = 1 → ¬ kd_in 2 (k b)
          · exact absurd ⟨x1, x2, x3, x4, x5⟩ hx
          · have e : o = 1 := Classical.byContradiction fun z => x4 fun z2 => absurd z2 z
            have hk : kd_in 2 (k b) := Classical.byContradiction fun z => x4 fun _ => z
            exact ⟨b, 2, by have := hb e; omega, by omega, hk, fun st hc hok => hok.2.2.2.1 e hc⟩
        · have e : is_tk o = 2 := Classical.byContradiction fun z => x3 fun z2 => absurd z2 z
          have hk : ¬ kd_sub (k (2 + h)) (is_n2 o) := fun z => x3 fun _ => z
          have hk2 : ∃ c, c < 3 ∧ kd_in c (k (2 + h)) ∧ ¬ kd_in c (is_n2 o) := Classical.byContradiction fun z => hk fun c hc h1 => Classical.byContradiction fun h2 => z ⟨c, hc, h1, h2⟩
          obtain ⟨c, hc, h1, h2⟩ := hk2
          exact ⟨2 + h, c, by omega, hc, h1, fun st e2 hok => h2 (by have := hok.2.2.1 e; rw [e2] at this; exact this)⟩
      · have e : 1 ≤ is_tk o := Classical.byContradiction fun z => x2 fun z2 => absurd z2 z
        have hk : ¬ kd_sub (k (3 + h)) (is_n1 o b nm) := fun z => x2 fun _ => z
        have hk2 : ∃ c, c < 3 ∧ kd_in c (k (3 + h)) ∧ ¬ kd_in c (is_n1 o b nm) := Classical.byContradiction fun z => hk fun c hc h1 => Classical.byContradiction fun h2 => z ⟨c, hc, h1, h2⟩
        obtain ⟨c, hc, h1, h2⟩ := hk2
        exact ⟨3 + h, c, by omega, hc, h1, fun st e2 hok => h2 (by have := hok.2.1 e; rw [e2] at this; exact this)⟩
    · right
      intro st hok
      exact x5 hok.2.2.2.2
  · right
    intro st hok
    exact x1 hok.1
theorem xk_C {o b nm h p' s c : Nat} {k : Nat → Nat} (ho : o < 21) (hb : o = 1 → b < 4) (h5 : h ≤ 5) (hx : xk_ok o b nm k h) (hs : s < 4 + wy_h o h) (hc : c < 3) (hk : kd_in c (xk_t o b k h s)) :
    (∃ s0, s0 < 4 + h ∧ kd_in c (k s0) ∧ ∀ st, wy_ok o b nm st h → wy_c st s0 = c → wy_c (wy_nx o b st h p') s = c) ∨ (∀ st, wy_ok o b nm st h → wy_c (wy_nx o b st h p') s = c) := by
  have key : ∀ st, wy_ok o b nm st h → wy_c (wy_nx o b st h p') s = if s < 4 then wy_nl o b st h s else if s < 4 + (h - is_tk o) then wy_c st s else wy_g o b st := fun st hok => wy_nxC hb hok h5 hs
  unfold xk_t at hk
  by_cases h4 : s < 4
  · rw [if_pos h4] at hk
    left
    by_cases e : o = 2 ∧ s = b
    · rw [if_pos e] at hk
      refine ⟨3 + h, by omega, hk, fun st hok e2 => ?_⟩
      rw [key st hok, if_pos h4]; unfold wy_nl; rw [if_pos e]; exact e2
    · rw [if_neg e] at hk
      refine ⟨s, by omega, hk, fun st hok e2 => ?_⟩
      rw [key st hok, if_pos h4]; unfold wy_nl; rw [if_neg e]; exact e2
  · rw [if_neg h4] at hk
    by_cases h2 : s < 4 + (h - is_tk o)
    · rw [if_pos h2] at hk
      refine Or.inl ⟨s, by omega, hk, fun st hok e2 => ?_⟩
      rw [key st hok, if_neg h4, if_pos h2]; exact e2
    · rw [if_neg h2] at hk
      by_cases e : o = 1
      · rw [if_pos e] at hk
        refine Or.inl ⟨b, by have := hb e; omega, hk, fun st hok e2 => ?_⟩
        rw [key st hok, if_neg h4, if_neg h2]; unfold wy_g; rw [if_pos e]; exact e2
      · rw [if_neg e] at hk
        refine Or.inr (fun st hok => ?_)
        rw [key st hok, if_neg h4, if_neg h2]; unfold wy_g; rw [if_neg e]
        have hg : is_gv o = true := by
          unfold wy_h at hs
          cases hg : is_gv o
          · rw [hg] at hs; simp at hs; omega
          · rfl
        rcases is_gk2 b ho hg e with z | z
        · rw [z] at hk ⊢; rw [kd_2 c hc hk]; rfl
        · rw [z] at hk ⊢; rw [kd_4 c hc hk]; rfl
theorem xk_pos {o b nm h s : Nat} {k : Nat → Nat} (ho : o < 21) (hb : o = 1 → b < 4) (hx : xk_ok o b nm k h) (hk : ∀ s, s < 4 + h → 0 < k s ∧ k s < 8) (hs : s < 4 + wy_h o h) : 0 < xk_t o b k h s ∧ xk_t o b k h s < 8 := by
  unfold xk_t
  by_cases h4 : s < 4
  · rw [if_pos h4]
    split
    · exact hk _ (by omega)
    · exact hk _ (by omega)
  · rw [if_neg h4]
    by_cases h2 : s < 4 + (h - is_tk o)
    · rw [if_pos h2]; exact hk _ (by omega)
    · rw [if_neg h2]
      by_cases e : o = 1
      · rw [if_pos e]; exact hk _ (by have := hb e; omega)
      · rw [if_neg e]
        have hg : is_gv o = true := by
          unfold wy_h at hs
          cases hg : is_gv o
          · rw [hg] at hs; simp at hs; omega
          · rfl
        rcases is_gk2 b ho hg e with z | z
        · rw [z]; omega
        · rw [z]; omega
end
section
/-! ===== the class's check: its invariant ===== -/
def kk (m : Nat) (K : Nat → Int32) (p s : Nat) : Nat := gm_n (K ((m * 32 + p) * 9 + s))
def xc (m L nm : Nat) (D : Nat → Nat) (H K : Nat → Int32) (p h : Nat) : Prop := xk_ok (D p) (D (p + 1)) nm (kk m K p) h ∧ ∀ p', is_su (D p) (D (p + 1)) p p' → p' < L ∧ H (m * 32 + p') = nI (wy_h (D p) h) ∧ ∀ s, s < 4 + wy_h (D p) h → kd_sub (xk_t (D p) (D (p + 1)) (kk m K p) h s) (kk m K p' s)
/-- each kind in f at place p has a way behind it -/
def xw (D : Nat → Nat) (L nm p h : Nat) (f : Nat → Nat) : Prop := (∃ st, Way D L nm st h ∧ wy_p st = p) ∧ ∀ s, s < 4 + h → ∀ c, c < 3 → kd_in c (f s) → ∃ st, Way D L nm st h ∧ wy_p st = p ∧ wy_c st s = c
def XI (m L nm : Nat) (D : Nat → Nat) (S : Nat → Prop) (e : Nat) (H K W : Nat → Int32) : Prop :=
  (∀ i, ∃ a, a < 8 ∧ K i = nI a) ∧ (∀ p, p < 32 → (H (m * 32 + p) = -1 ∧ W (m * 32 + p) = 0) ∨ ∃ h, h ≤ 5 ∧ H (m * 32 + p) = nI h) ∧
  (∀ p, p < L → ∀ h, h ≤ 5 → H (m * 32 + p) = nI h → S p ∧ ∀ s, s < 4 + h → 0 < kk m K p s) ∧
  (¬ WBad D L nm → ∀ p, p < L → ∀ h, h ≤ 5 → H (m * 32 + p) = nI h → xw D L nm p h (kk m K p)) ∧
  (∀ p, p < L → ∀ h, h ≤ 5 → H (m * 32 + p) = nI h → W (m * 32 + p) = 0 → p ≠ e → xc m L nm D H K p h)
/-- what an arrival at p' with height h' and kinds f does -/
def AR (m p' h' : Nat) (f : Nat → Nat) (H K W H' K' W' : Nat → Int32) : Prop :=
  ∃ kn : Nat → Nat, ((H (m * 32 + p') = -1 ∧ ∀ s, kn s = 0) ∨ (H (m * 32 + p') = nI h' ∧ ∀ s, kn s = kk m K p' s)) ∧ H' = upd H (m * 32 + p') (nI h') ∧ (∀ i, (∀ s, s < 4 + h' → i ≠ (m * 32 + p') * 9 + s) → K' i = K i) ∧ (∀ s, s < 4 + h' → K' ((m * 32 + p') * 9 + s) = nI (kn s ||| f s)) ∧
  (∀ i, i ≠ m * 32 + p' → W' i = W i) ∧ ((W' (m * 32 + p') = W (m * 32 + p') ∧ ∀ s, s < 4 + h' → kn s ||| f s = kn s) ∨ (W' (m * 32 + p') = 1 ∧ ∃ s, s < 4 + h' ∧ kn s ||| f s ≠ kn s))
/-- bit j is there -/
def PB (m : Nat) (H K : Nat → Int32) (j : Nat) : Prop := ∃ h, h ≤ 5 ∧ H (m * 32 + j / 27) = nI h ∧ j / 3 % 9 < 4 + h ∧ kd_in (j % 3) (kk m K (j / 27) (j / 3 % 9))
/-- kinds and heights grow alone -/
def XMon (m : Nat) (H K H' K' : Nat → Int32) : Prop := ∀ q, q < 32 → ∀ h, h ≤ 5 → H (m * 32 + q) = nI h → H' (m * 32 + q) = nI h ∧ ∀ s, s < 4 + h → kd_sub (kk m K q s) (kk m K' q s)
def XRow (m : Nat) (H K W K' W' : Nat → Int32) : Prop := ∀ q, q < 32 → W' (m * 32 + q) = 0 → W (m * 32 + q) = 0 ∧ ∀ h, h ≤ 5 → H (m * 32 + q) = nI h → ∀ s, s < 4 + h → kk m K' q s = kk m K q s
def XGrow (m : Nat) (H K W H' K' W' : Nat → Int32) : Prop := (∃ j, j < 864 ∧ PB m H' K' j ∧ ¬ PB m H K j) ∨ (∀ q, q < 32 → W' (m * 32 + q) = W (m * 32 + q))
def XFr (m : Nat) (H K H' K' : Nat → Int32) : Prop := (∀ i, (i < m * 32 ∨ m * 32 + 32 ≤ i) → H' i = H i) ∧ (∀ i, (i < m * 288 ∨ m * 288 + 288 ≤ i) → K' i = K i)
theorem XFr_t {m : Nat} {H K H1 K1 H2 K2 : Nat → Int32} (a : XFr m H K H1 K1) (b : XFr m H1 K1 H2 K2) : XFr m H K H2 K2 := ⟨fun i h => (b.1 i h).trans (a.1 i h), fun i h => (b.2 i h).trans (a.2 i h)⟩
theorem XMon_t {m : Nat} {H K H1 K1 H2 K2 : Nat → Int32} (a : XMon m H K H1 K1) (b : XMon m H1 K1 H2 K2) : XMon m H K H2 K2 := fun q hq h h5 e => by
  obtain ⟨a1, a2⟩ := a q hq h h5 e
  obtain ⟨b1, b2⟩ := b q hq h h5 a1
  exact ⟨b1, fun s hs c hc z => b2 s hs c hc (a2 s hs c hc z)⟩
theorem PB_mon {m : Nat} {H K H1 K1 : Nat → Int32} (a : XMon m H K H1 K1) {j : Nat} (hj : j < 864) (p : PB m H K j) : PB m H1 K1 j := by
  obtain ⟨h, h5, e, hs, hc⟩ := p
  obtain ⟨a1, a2⟩ := a (j / 27) (by omega) h h5 e
  exact ⟨h, h5, a1, hs, a2 _ hs _ (by omega) hc⟩
theorem kk_nI {m p s a : Nat} {K : Nat → Int32} (e : K ((m * 32 + p) * 9 + s) = nI a) (h : a < 8) : kk m K p s = a := by
  unfold kk
  rw [e, gp_nI (by omega)]
theorem kk_8 {m L nm e : Nat} {D : Nat → Nat} {S : Nat → Prop} {H K W : Nat → Int32} (I : XI m L nm D S e H K W) (p s : Nat) : kk m K p s < 8 ∧ K ((m * 32 + p) * 9 + s) = nI (kk m K p s) := by
  obtain ⟨a, ha, e⟩ := I.1 ((m * 32 + p) * 9 + s)
  rw [kk_nI e ha]
  exact ⟨ha, e⟩
theorem gp_inj {a b : Nat} (ha : a < 2 ^ 31) (hb : b < 2 ^ 31) (h : nI a = nI b) : a = b := (nI_eq ha hb).mp h
theorem gp_m1n {a : Nat} (ha : a < 2 ^ 31) (h : nI a = -1) : False := of_eq_false (gm_m1 ha) h
theorem ar_XI {m L nm e tc p' h' : Nat} {D : Nat → Nat} {S : Nat → Prop} {f : Nat → Nat} {H K W H' K' W' : Nat → Int32} (F : fo_OK tc L D S) (I : XI m L nm D S e H K W) (A : AR m p' h' f H K W H' K' W') (hp' : p' < L) (h5 : h' ≤ 5) (hS : S p') (hf : ∀ s, s < 4 + h' → 0 < f s ∧ f s < 8)
    (hw : ¬ WBad D L nm → xw D L nm p' h' f) : XI m L nm D S e H' K' W' ∧ XMon m H K H' K' ∧ (H' (m * 32 + p') = nI h' ∧ ∀ s, s < 4 + h' → kd_sub (f s) (kk m K' p' s)) ∧ XRow m H K W K' W' ∧ XGrow m H K W H' K' W' ∧ XFr m H K H' K' := by
  have hL := F.2.1
  have k8 := kk_8 I
  obtain ⟨i1, i2, i3, i4, i5⟩ := I
  obtain ⟨kn, a1, rfl, a3, a4, a5, a6⟩ := A
  have kn8 : ∀ s, kn s < 8 := by
    intro s
    rcases a1 with ⟨-, z⟩ | ⟨-, z⟩
    · rw [z]; omega
    · rw [z]; exact (k8 p' s).1
  have Kp : ∀ s, s < 4 + h' → kk m K' p' s = kn s ||| f s := fun s hs => kk_nI (a4 s hs) (kd_orL _ (kn8 s) _ (hf s hs).2)
  have Kq : ∀ q s, q ≠ p' → s < 9 → K' ((m * 32 + q) * 9 + s) = K ((m * 32 + q) * 9 + s) := fun q s hq hs => a3 _ (fun s' hs' => by omega)
  have Kqk : ∀ q s, q ≠ p' → s < 9 → kk m K' q s = kk m K q s := fun q s hq hs => by unfold kk; rw [Kq q s hq hs]
  have Hq : ∀ q, q ≠ p' → upd H (m * 32 + p') (nI h') (m * 32 + q) = H (m * 32 + q) := fun q hq => pk_un (by omega)
  have Hp : upd H (m * 32 + p') (nI h') (m * 32 + p') = nI h' := pk_us
  have mon : XMon m H K (upd H (m * 32 + p') (nI h')) K' := by
    intro q hq h hh eq
    by_cases e : q = p'
    · subst e
      rcases a1 with ⟨z, -⟩ | ⟨z, z2⟩
      · rw [eq] at z; exact absurd z (fun z => gp_m1n (by omega) z)
      · rw [eq] at z
        cases gp_inj (by omega) (by omega) z
        refine ⟨Hp, fun s hs c hc hk => ?_⟩
        rw [Kp s hs, kd_or _ (kn8 s) _ (hf s hs).2 c hc, z2]
        exact Or.inl hk
    · rw [Hq q e]
      exact ⟨eq, fun s hs c hc hk => by rw [Kqk q s e (by omega)]; exact hk⟩
  have row : XRow m H K W K' W' := by
    intro q hq hw0
    by_cases e : q = p'
    · subst e
      rcases a6 with ⟨z1, z2⟩ | ⟨z1, -⟩
      · refine ⟨by rw [← z1]; exact hw0, fun h hh eq s hs => ?_⟩
        rcases a1 with ⟨z, -⟩ | ⟨z, z3⟩
        · rw [eq] at z; exact absurd z (fun z => gp_m1n (by omega) z)
        · rw [eq] at z
          cases gp_inj (by omega) (by omega) z
          rw [Kp s hs, z2 s hs, z3]
      · rw [z1] at hw0; exact absurd hw0 (by decide)
    · exact ⟨by rw [← a5 _ (by omega)]; exact hw0, fun h hh eq s hs => Kqk q s e (by omega)⟩
  refine ⟨⟨fun i => ?_, fun p hp => ?_, fun p hp h hh eq => ?_, fun nb p hp h hh eq => ?_, fun p hp h hh eq hw0 hne => ?_⟩, mon, ⟨Hp, fun s hs c hc hk => ?_⟩, row, ?_, ⟨fun i hi => pk_un (by omega), fun i hi => a3 i (fun s hs => by omega)⟩⟩
  · by_cases e : ∃ s, s < 4 + h' ∧ i = (m * 32 + p') * 9 + s
    · obtain ⟨s, hs, rfl⟩ := e
      exact ⟨_, kd_orL _ (kn8 s) _ (hf s hs).2, a4 s hs⟩
    · rw [a3 i (fun s hs z => e ⟨s, hs, z⟩)]; exact i1 i
  · by_cases e : p = p'
    · subst e; exact Or.inr ⟨h', h5, Hp⟩
    · rw [Hq p e, a5 _ (by omega)]; exact i2 p hp
  · by_cases e : p = p'
    · subst e
      rw [Hp] at eq
      cases gp_inj (by omega) (by omega) eq
      refine ⟨hS, fun s hs => ?_⟩
      rw [Kp s hs]
      have hfs := hf s hs
      obtain ⟨c, hc, hk⟩ := kd_pos _ hfs.2 hfs.1
      exact kd_posI _ (kd_orL _ (kn8 s) _ hfs.2) c hc ((kd_or _ (kn8 s) _ hfs.2 c hc).mpr (Or.inr hk))
    · rw [Hq p e] at eq
      obtain ⟨b1, b2⟩ := i3 p hp h hh eq
      exact ⟨b1, fun s hs => by rw [Kqk p s e (by omega)]; exact b2 s hs⟩
  · by_cases e : p = p'
    · subst e
      rw [Hp] at eq
      cases gp_inj (by omega) (by omega) eq
      obtain ⟨w1, w2⟩ := hw nb
      refine ⟨w1, fun s hs c hc hk => ?_⟩
      rw [Kp s hs, kd_or _ (kn8 s) _ (hf s hs).2 c hc] at hk
      rcases hk with hk | hk
      · rcases a1 with ⟨-, z⟩ | ⟨z, z2⟩
        · rw [z] at hk
          exact absurd hk (by unfold kd_in; simp)
        · rw [z2] at hk
          exact (i4 nb p hp h' h5 z).2 s hs c hc hk
      · exact w2 s hs c hc hk
    · rw [Hq p e] at eq
      obtain ⟨b1, b2⟩ := i4 nb p hp h hh eq
      exact ⟨b1, fun s hs c hc hk => b2 s hs c hc (by rw [Kqk p s e (by omega)] at hk; exact hk)⟩
  · obtain ⟨r1, r2⟩ := row p (by omega) hw0
    have eqo : H (m * 32 + p) = nI h := by
      by_cases e : p = p'
      · subst e
        rw [Hp] at eq
        cases gp_inj (by omega) (by omega) eq
        rcases a1 with ⟨z, z2⟩ | ⟨z, -⟩
        · exfalso
          rcases a6 with ⟨z3, z4⟩ | ⟨z3, -⟩
          · have := z4 0 (by omega)
            rw [z2 0, Nat.zero_or] at this
            have := (hf 0 (by omega)).1
            omega
          · rw [z3] at hw0; exact absurd hw0 (by decide)
        · exact z
      · rw [Hq p e] at eq; exact eq
    obtain ⟨c1, c2⟩ := i5 p hp h hh eqo r1 hne
    have hkk : ∀ s, s < 4 + h → kk m K' p s = kk m K p s := r2 h hh eqo
    have hb4 := fo_b4 F hp (i3 p hp h hh eqo).1
    -- the row is the same, so the transfer is the same
    have hok : xk_ok (D p) (D (p + 1)) nm (kk m K' p) h := by
      obtain ⟨x1, x2, x3, x4, x5⟩ := c1
      exact ⟨x1, fun z => by rw [hkk _ (by omega)]; exact x2 z, fun z => by rw [hkk _ (by omega)]; exact x3 z, fun z => by rw [hkk _ (by have := hb4.1 z; omega)]; exact x4 z, x5⟩
    have ht : ∀ s, s < 4 + wy_h (D p) h → xk_t (D p) (D (p + 1)) (kk m K' p) h s = xk_t (D p) (D (p + 1)) (kk m K p) h s := by
      intro s hs
      unfold xk_t
      by_cases h4 : s < 4
      · rw [if_pos h4, if_pos h4]
        by_cases e2 : D p = 2 ∧ s = D (p + 1)
        · rw [if_pos e2, if_pos e2]; exact hkk _ (by omega)
        · rw [if_neg e2, if_neg e2]; exact hkk _ (by omega)
      · rw [if_neg h4, if_neg h4]
        by_cases h2 : s < 4 + (h - is_tk (D p))
        · rw [if_pos h2, if_pos h2]; exact hkk _ (by omega)
        · rw [if_neg h2, if_neg h2]
          by_cases e2 : D p = 1
          · rw [if_pos e2, if_pos e2]; exact hkk _ (by have := hb4.1 e2; omega)
          · rw [if_neg e2, if_neg e2]
    refine ⟨hok, fun q hq => ?_⟩
    obtain ⟨d1, d2, d3⟩ := c2 q hq
    have h5' : wy_h (D p) h ≤ 5 := by
      unfold wy_h
      obtain ⟨x1, x2, x3, x4, x5⟩ := c1
      cases hg : is_gv (D p)
      · simp; omega
      · have := x5 hg; simp; omega
    obtain ⟨m1, m2⟩ := mon q (by omega) _ h5' d2
    refine ⟨d1, m1, fun s hs => ?_⟩
    rw [ht s hs]
    exact fun c hc hk => m2 s hs c hc (d3 s hs c hc hk)
  · rw [Kp s hs, kd_or _ (kn8 s) _ (hf s hs).2 c hc]
    exact Or.inr hk
  · rcases a6 with ⟨z1, z2⟩ | ⟨z1, s, hs, z2⟩
    · right
      intro q hq
      by_cases e : q = p'
      · subst e; exact z1
      · exact a5 _ (by omega)
    · left
      obtain ⟨c, hc, k1, k2⟩ := kd_new _ (kn8 s) _ (hf s hs).2 z2
      have j1 : (p' * 27 + s * 3 + c) / 27 = p' := by omega
      have j2 : (p' * 27 + s * 3 + c) / 3 % 9 = s := by omega
      have j3 : (p' * 27 + s * 3 + c) % 3 = c := by omega
      refine ⟨p' * 27 + s * 3 + c, by omega, ⟨h', h5, by rw [j1]; exact Hp, by rw [j2]; exact hs, ?_⟩, ?_⟩
      · rw [j1, j2, j3, Kp s hs, kd_or _ (kn8 s) _ (hf s hs).2 c hc]
        exact Or.inr k1
      · rintro ⟨h, hh, eq, hs2, hk⟩
        rw [j1, j2, j3] at hk
        rw [j1] at eq
        rcases a1 with ⟨z, -⟩ | ⟨z, z3⟩
        · rw [eq] at z; exact gp_m1n (by omega) z
        · rw [z3] at k2; exact k2 hk
end
section
theorem nx_or (a b : Nat) : nI a ||| nI b = nI (a ||| b) := by
  apply Int32.toBitVec_inj.1
  show BitVec.ofNat 32 a ||| BitVec.ofNat 32 b = BitVec.ofNat 32 (a ||| b)
  apply BitVec.eq_of_getLsbD_eq
  intro i hi
  simp [hi]
/-! ===== arrive ===== -/
theorem ar_69 (f_typeCount f_methodCount f_linked f_faultPlace f_active f_ticksLeft f_outcome f_latestResult : Int32) (a_typeAbove a_fieldSet a_methodType a_methodName a_codeLength a_bytes a_isStart a_heightAt a_flowKinds a_globals a_objectType a_fieldValue a_isMarked a_frameMethod a_frameAt a_frameHeight a_slots : Nat → Int32) {to h' : Nat} {x4 : Int32} {kn f : Nat → Nat} (hto : to < 256) (h5 : h' ≤ 5) (hk8 : ∀ s, kn s < 8) (hn : x4 ≠ 0 → ∀ s, kn s = 0) (hf : ∀ s, s < 4 + h' → a_flowKinds s = nI (f s) ∧ 0 < f s ∧ f s < 8) :
    ∀ d s, s + d = 4 + h' → ∀ K W : Nat → Int32, (∀ s', s ≤ s' → s' < 4 + h' → x4 = 0 → K (to * 9 + s') = nI (kn s')) → ∃ K' W' : Nat → Int32, (∀ i, (∀ s', s ≤ s' → s' < 4 + h' → i ≠ to * 9 + s') → K' i = K i) ∧ (∀ s', s ≤ s' → s' < 4 + h' → K' (to * 9 + s') = nI (kn s' ||| f s')) ∧ (∀ i, i ≠ to → W' i = W i) ∧ ((W' to = W to ∧ ∀ s', s ≤ s' → s' < 4 + h' → kn s' ||| f s' = kn s') ∨ (W' to = 1 ∧ ∃ s', s ≤ s' ∧ s' < 4 + h' ∧ kn s' ||| f s' ≠ kn s')) ∧
      ∀ post : Int32 → SX → Prop, post 1 (f_typeCount, f_methodCount, f_linked, f_faultPlace, nI h', f_active, f_ticksLeft, f_outcome, f_latestResult, a_typeAbove, a_fieldSet, a_methodType, a_methodName, a_codeLength, a_bytes, a_isStart, a_heightAt, K', W', a_flowKinds, a_globals, a_objectType, a_fieldValue, a_isMarked, a_frameMethod, a_frameAt, a_frameHeight, a_slots) → wX_arrive_69 post (nI to) x4 f_typeCount f_methodCount f_linked f_faultPlace (nI h') f_active f_ticksLeft f_outcome f_latestResult (d + 1) (nI s) a_typeAbove a_fieldSet a_methodType a_methodName a_codeLength a_bytes a_isStart a_heightAt K W a_flowKinds a_globals a_objectType a_fieldValue a_isMarked a_frameMethod a_frameAt a_frameHeight a_slots := by
  intro d
  induction d with
  | zero =>
    intro s hs K W hK
    refine ⟨K, W, fun _ _ => rfl, fun s' h1 h2 => absurd h2 (by omega), fun _ _ => rfl, Or.inl ⟨rfl, fun s' h1 h2 => absurd h2 (by omega)⟩, fun post J => ?_⟩
    unfold wX_arrive_69
    simp (disch := omega) only [nI_clamp, gm_clL, gm_in, gm_inL, gm_ml, gm_al, gm_la, gm_sl, nI_add, pk_mul, gm_eqL, gm_leL, gm_ltL, gm_Lle, gm_Llt, gm_eq, gm_le, gm_lt, gm_m1, forall_eq, true_and, Nat.not_lt_zero, Nat.add_sub_cancel, gm_z2, gm_z3, gm_z9, gm_z16, gm_z18, gm_z32, gm_z36, gm_z64, gm_z1152, not_true_eq_false, not_false_eq_true, false_implies, true_implies, and_true, implies_true]
    exact ⟨fun _ => J, fun z => absurd (show 4 + h' ≤ s by omega) z⟩
  | succ d ih =>
    intro s hs K W hK
    obtain ⟨f1, f2, f3⟩ := hf s (by omega)
    by_cases e : kn s ||| f s = kn s
    · have x0 : x4 = 0 := Classical.byContradiction fun z => by
        have := hn z s
        rw [this, Nat.zero_or] at e
        omega
      subst x0
      obtain ⟨K', W', c1, c2, c3, c4, c5⟩ := ih (s + 1) (by omega) K W (fun s' h1 h2 => hK s' (by omega) h2)
      refine ⟨K', W', fun i hi => c1 i (fun s' h1 h2 => hi s' (by omega) h2), fun s' h1 h2 => ?_, c3, ?_, fun post J => ?_⟩
      · by_cases e2 : s' = s
        · subst e2
          rw [c1 _ (fun s'' h1 h2 => by omega), hK s' (by omega) h2 rfl, e]
        · exact c2 s' (by omega) h2
      · rcases c4 with ⟨z1, z2⟩ | ⟨z1, s2, z2, z3, z4⟩
        · refine Or.inl ⟨z1, fun s' h1 h2 => ?_⟩
          by_cases e2 : s' = s
          · subst e2; exact e
          · exact z2 s' (by omega) h2
        · exact Or.inr ⟨z1, s2, by omega, z3, z4⟩
      · have hKs := hK s (by omega) (by omega) rfl
        have hb := kd_orL _ (hk8 s) _ f3
        have hk := hk8 s
        unfold wX_arrive_69 wX_arrive_101
        simp (disch := omega) only [nI_clamp, gm_clL, gm_in, gm_inL, gm_ml, gm_al, gm_la, gm_sl, nI_add, pk_mul, gm_eqL, gm_leL, gm_ltL, gm_Lle, gm_Llt, gm_eq, gm_le, gm_lt, gm_m1, forall_eq, true_and, Nat.not_lt_zero, Nat.add_sub_cancel, gm_z2, gm_z3, gm_z9, gm_z16, gm_z18, gm_z32, gm_z36, gm_z64, gm_z1152, not_true_eq_false, not_false_eq_true, false_implies, true_implies, and_true, implies_true, hKs, f1, nx_or, e]
        exact ⟨fun z => absurd z (by omega), fun _ => c5 post J⟩
    · have hb := kd_orL _ (hk8 s) _ f3
      have hk := hk8 s
      obtain ⟨K', W', c1, c2, c3, c4, c5⟩ := ih (s + 1) (by omega) (upd K (to * 9 + s) (nI (kn s ||| f s))) (upd W to 1) (fun s' h1 h2 h3 => by rw [pk_un (by omega)]; exact hK s' (by omega) h2 h3)
      refine ⟨K', W', fun i hi => ?_, fun s' h1 h2 => ?_, fun i hi => ?_, Or.inr ⟨?_, s, by omega, by omega, e⟩, fun post J => ?_⟩
      · rw [c1 i (fun s' h1 h2 => hi s' (by omega) h2), pk_un (hi s (by omega) (by omega))]
      · by_cases e2 : s' = s
        · subst e2
          rw [c1 _ (fun s'' h1 h2 => by omega), pk_us]
        · exact c2 s' (by omega) h2
      · rw [c3 i hi, pk_un hi]
      · rcases c4 with ⟨z1, -⟩ | ⟨z1, -⟩
        · rw [z1, pk_us]
        · exact z1
      · have h3 := c5 post J
        unfold wX_arrive_69 wX_arrive_101
        by_cases x0 : x4 = 0
        · subst x0
          have hKs := hK s (by omega) (by omega) rfl
          simp (disch := omega) only [nI_clamp, gm_clL, gm_in, gm_inL, gm_ml, gm_al, gm_la, gm_sl, nI_add, pk_mul, gm_eqL, gm_leL, gm_ltL, gm_Lle, gm_Llt, gm_eq, gm_le, gm_lt, gm_m1, forall_eq, true_and, Nat.not_lt_zero, Nat.add_sub_cancel, gm_z2, gm_z3, gm_z9, gm_z16, gm_z18, gm_z32, gm_z36, gm_z64, gm_z1152, not_true_eq_false, not_false_eq_true, false_implies, true_implies, and_true, implies_true, hKs, f1, nx_or, e, gm_nb1]
          exact ⟨fun z => absurd z (by omega), fun _ => h3⟩
        · have hz := hn x0 s
          rw [hz] at h3 e
          have l0 : (0 : Int32) = nI 0 := rfl
          rw [Nat.zero_or] at h3 e
          simp (disch := omega) only [nI_clamp, gm_clL, gm_in, gm_inL, gm_ml, gm_al, gm_la, gm_sl, nI_add, pk_mul, gm_eqL, gm_leL, gm_ltL, gm_Lle, gm_Llt, gm_eq, gm_le, gm_lt, gm_m1, forall_eq, true_and, Nat.not_lt_zero, Nat.add_sub_cancel, gm_z2, gm_z3, gm_z9, gm_z16, gm_z18, gm_z32, gm_z36, gm_z64, gm_z1152, not_true_eq_false, not_false_eq_true, false_implies, true_implies, and_true, implies_true, f1, x0, gm_nb1, Int32.zero_or]
          exact ⟨fun z => absurd z (by omega), fun _ => ⟨fun z => absurd z (by omega), fun _ => h3⟩⟩
theorem ar_x (f_typeCount f_methodCount f_linked f_faultPlace f_active f_ticksLeft f_outcome f_latestResult : Int32) (a_typeAbove a_fieldSet a_methodType a_methodName a_codeLength a_bytes a_isStart a_heightAt a_kindsAt a_isWaiting a_flowKinds a_globals a_objectType a_fieldValue a_isMarked a_frameMethod a_frameAt a_frameHeight a_slots : Nat → Int32) {m L p' h' : Nat} {f : Nat → Nat} (hm : m < 8) (hL : L ≤ 32) (eL : a_codeLength m = nI L) (h5 : h' ≤ 5) (hp : p' < 1000) (hf : ∀ s, s < 4 + h' → a_flowKinds s = nI (f s) ∧ 0 < f s ∧ f s < 8) (KB : ∀ i, ∃ a, a < 8 ∧ a_kindsAt i = nI a) :
    (L ≤ p' → ∀ post : Int32 → SX → Prop, post 0 (f_typeCount, f_methodCount, f_linked, f_faultPlace, nI h', f_active, f_ticksLeft, f_outcome, f_latestResult, a_typeAbove, a_fieldSet, a_methodType, a_methodName, a_codeLength, a_bytes, a_isStart, a_heightAt, a_kindsAt, a_isWaiting, a_flowKinds, a_globals, a_objectType, a_fieldValue, a_isMarked, a_frameMethod, a_frameAt, a_frameHeight, a_slots) → wpX_arrive post (f_typeCount, f_methodCount, f_linked, f_faultPlace, nI h', f_active, f_ticksLeft, f_outcome, f_latestResult, a_typeAbove, a_fieldSet, a_methodType, a_methodName, a_codeLength, a_bytes, a_isStart, a_heightAt, a_kindsAt, a_isWaiting, a_flowKinds, a_globals, a_objectType, a_fieldValue, a_isMarked, a_frameMethod, a_frameAt, a_frameHeight, a_slots) (nI m) (nI p')) ∧
    (p' < L → ∀ h0, h0 ≤ 5 → a_heightAt (m * 32 + p') = nI h0 → h0 ≠ h' → ∀ post : Int32 → SX → Prop, post 0 (f_typeCount, f_methodCount, f_linked, f_faultPlace, nI h', f_active, f_ticksLeft, f_outcome, f_latestResult, a_typeAbove, a_fieldSet, a_methodType, a_methodName, a_codeLength, a_bytes, a_isStart, a_heightAt, a_kindsAt, a_isWaiting, a_flowKinds, a_globals, a_objectType, a_fieldValue, a_isMarked, a_frameMethod, a_frameAt, a_frameHeight, a_slots) → wpX_arrive post (f_typeCount, f_methodCount, f_linked, f_faultPlace, nI h', f_active, f_ticksLeft, f_outcome, f_latestResult, a_typeAbove, a_fieldSet, a_methodType, a_methodName, a_codeLength, a_bytes, a_isStart, a_heightAt, a_kindsAt, a_isWaiting, a_flowKinds, a_globals, a_objectType, a_fieldValue, a_isMarked, a_frameMethod, a_frameAt, a_frameHeight, a_slots) (nI m) (nI p')) ∧
    (p' < L → (a_heightAt (m * 32 + p') = -1 ∨ a_heightAt (m * 32 + p') = nI h') → ∃ H' K' W', AR m p' h' f a_heightAt a_kindsAt a_isWaiting H' K' W' ∧ ∀ post : Int32 → SX → Prop, post 1 (f_typeCount, f_methodCount, f_linked, f_faultPlace, nI h', f_active, f_ticksLeft, f_outcome, f_latestResult, a_typeAbove, a_fieldSet, a_methodType, a_methodName, a_codeLength, a_bytes, a_isStart, H', K', W', a_flowKinds, a_globals, a_objectType, a_fieldValue, a_isMarked, a_frameMethod, a_frameAt, a_frameHeight, a_slots) → wpX_arrive post (f_typeCount, f_methodCount, f_linked, f_faultPlace, nI h', f_active, f_ticksLeft, f_outcome, f_latestResult, a_typeAbove, a_fieldSet, a_methodType, a_methodName, a_codeLength, a_bytes, a_isStart, a_heightAt, a_kindsAt, a_isWaiting, a_flowKinds, a_globals, a_objectType, a_fieldValue, a_isMarked, a_frameMethod, a_frameAt, a_frameHeight, a_slots) (nI m) (nI p')) := by
  refine ⟨fun hLp post J => ?_, fun hLp h0 h05 e0 hne post J => ?_, fun hLp e0 => ?_⟩
  · unfold wpX_arrive
    simp (disch := omega) only [nI_clamp, gm_clL, gm_in, gm_inL, gm_ml, gm_al, gm_la, gm_sl, nI_add, pk_mul, gm_eqL, gm_leL, gm_ltL, gm_Lle, gm_Llt, gm_eq, gm_le, gm_lt, gm_m1, forall_eq, true_and, Nat.not_lt_zero, Nat.add_sub_cancel, gm_z2, gm_z3, gm_z9, gm_z16, gm_z18, gm_z32, gm_z36, gm_z64, gm_z1152, not_true_eq_false, not_false_eq_true, false_implies, true_implies, and_true, implies_true, eL]
    exact ⟨fun z => absurd z (by omega), fun _ => J⟩
  · unfold wpX_arrive wX_arrive_34
    simp (disch := omega) only [nI_clamp, gm_clL, gm_in, gm_inL, gm_ml, gm_al, gm_la, gm_sl, nI_add, pk_mul, gm_eqL, gm_leL, gm_ltL, gm_Lle, gm_Llt, gm_eq, gm_le, gm_lt, gm_m1, forall_eq, true_and, Nat.not_lt_zero, Nat.add_sub_cancel, gm_z2, gm_z3, gm_z9, gm_z16, gm_z18, gm_z32, gm_z36, gm_z64, gm_z1152, not_true_eq_false, not_false_eq_true, false_implies, true_implies, and_true, implies_true, eL, e0]
    refine ⟨fun _ => ⟨fun z => absurd z hne, fun _ => J⟩, fun z => absurd hLp z⟩
  · have kb : ∀ s, kk m a_kindsAt p' s < 8 ∧ a_kindsAt ((m * 32 + p') * 9 + s) = nI (kk m a_kindsAt p' s) := fun s => by
      obtain ⟨a, ha, e⟩ := KB ((m * 32 + p') * 9 + s)
      rw [kk_nI e ha]; exact ⟨ha, e⟩
    rcases e0 with e0 | e0
    · obtain ⟨K', W', c1, c2, c3, c4, c5⟩ := ar_69 f_typeCount f_methodCount f_linked f_faultPlace f_active f_ticksLeft f_outcome f_latestResult a_typeAbove a_fieldSet a_methodType a_methodName a_codeLength a_bytes a_isStart (upd a_heightAt (m * 32 + p') (nI h')) a_flowKinds a_globals a_objectType a_fieldValue a_isMarked a_frameMethod a_frameAt a_frameHeight a_slots (to := m * 32 + p') (x4 := 1) (kn := fun _ => 0) (f := f) (by omega) h5 (fun _ => by omega) (fun _ _ => rfl) hf (4 + h') 0 (by omega) a_kindsAt a_isWaiting (fun s' _ _ z => absurd z (by decide))
      refine ⟨_, K', W', ⟨fun _ => 0, Or.inl ⟨e0, fun _ => rfl⟩, rfl, fun i hi => c1 i (fun s' _ h2 => hi s' h2), fun s hs => c2 s (by omega) hs, c3, ?_⟩, fun post J => ?_⟩
      · rcases c4 with ⟨z1, z2⟩ | ⟨z1, s2, z2, z3, z4⟩
        · exact Or.inl ⟨z1, fun s hs => z2 s (by omega) hs⟩
        · exact Or.inr ⟨z1, s2, z3, z4⟩
      · unfold wpX_arrive wX_arrive_34 wX_arrive_56
        simp (disch := omega) only [nI_clamp, gm_clL, gm_in, gm_inL, gm_ml, gm_al, gm_la, gm_sl, nI_add, pk_mul, gm_eqL, gm_leL, gm_ltL, gm_Lle, gm_Llt, gm_eq, gm_le, gm_lt, gm_m1, forall_eq, true_and, Nat.not_lt_zero, Nat.add_sub_cancel, gm_z2, gm_z3, gm_z9, gm_z16, gm_z18, gm_z32, gm_z36, gm_z64, gm_z1152, not_true_eq_false, not_false_eq_true, false_implies, true_implies, and_true, implies_true, eL, e0, gm_z1]
        exact ⟨fun _ => ⟨4 + h' + 1, c5 post J⟩, fun z => absurd hLp z⟩
    · obtain ⟨K', W', c1, c2, c3, c4, c5⟩ := ar_69 f_typeCount f_methodCount f_linked f_faultPlace f_active f_ticksLeft f_outcome f_latestResult a_typeAbove a_fieldSet a_methodType a_methodName a_codeLength a_bytes a_isStart (upd a_heightAt (m * 32 + p') (nI h')) a_flowKinds a_globals a_objectType a_fieldValue a_isMarked a_frameMethod a_frameAt a_frameHeight a_slots (to := m * 32 + p') (x4 := 0) (kn := kk m a_kindsAt p') (f := f) (by omega) h5 (fun s => (kb s).1) (fun z => absurd rfl z) hf (4 + h') 0 (by omega) a_kindsAt a_isWaiting (fun s' _ _ _ => (kb s').2)
      refine ⟨_, K', W', ⟨kk m a_kindsAt p', Or.inr ⟨e0, fun _ => rfl⟩, rfl, fun i hi => c1 i (fun s' _ h2 => hi s' h2), fun s hs => c2 s (by omega) hs, c3, ?_⟩, fun post J => ?_⟩
      · rcases c4 with ⟨z1, z2⟩ | ⟨z1, s2, z2, z3, z4⟩
        · exact Or.inl ⟨z1, fun s hs => z2 s (by omega) hs⟩
        · exact Or.inr ⟨z1, s2, z3, z4⟩
      · unfold wpX_arrive wX_arrive_34 wX_arrive_56
        simp (disch := omega) only [nI_clamp, gm_clL, gm_in, gm_inL, gm_ml, gm_al, gm_la, gm_sl, nI_add, pk_mul, gm_eqL, gm_leL, gm_ltL, gm_Lle, gm_Llt, gm_eq, gm_le, gm_lt, gm_m1, forall_eq, true_and, Nat.not_lt_zero, Nat.add_sub_cancel, gm_z2, gm_z3, gm_z9, gm_z16, gm_z18, gm_z32, gm_z36, gm_z64, gm_z1152, not_true_eq_false, not_false_eq_true, false_implies, true_implies, and_true, implies_true, eL, e0]
        exact ⟨fun _ => ⟨4 + h' + 1, c5 post J⟩, fun z => absurd hLp z⟩
/-! ===== what an instruction takes and gives ===== -/
theorem gk_and4 : ∀ b, b < 256 → ((nI b &&& 4) = 0 ↔ b / 4 % 2 = 0) := by decide +kernel
theorem ev_ak {post : Int32 → Prop} {b : Nat} (hb : b < 256) (J : post (nI (is_ak b))) : wpX_argumentKind post (nI b) := by
  unfold is_ak at J
  have := gk_and4 b hb
  by_cases e : b / 4 % 2 = 0
  · rw [if_pos e] at J; exact br_t (this.mpr e) J
  · rw [if_neg e] at J; exact br_f (fun z => e (this.mp z)) J
theorem is_21 {o : Nat} (ho : o < 21) : o = 0 ∨ o = 1 ∨ o = 2 ∨ o = 3 ∨ o = 4 ∨ o = 5 ∨ o = 6 ∨ o = 7 ∨ o = 8 ∨ o = 9 ∨ o = 10 ∨ o = 11 ∨ o = 12 ∨ o = 13 ∨ o = 14 ∨ o = 15 ∨ o = 16 ∨ o = 17 ∨ o = 18 ∨ o = 19 ∨ o = 20 := by omega
theorem ev_topNeed (f_typeCount f_methodCount f_linked f_faultPlace f_flowHeight f_active f_ticksLeft f_outcome f_latestResult : Int32) (a_typeAbove a_fieldSet a_methodType a_methodName a_codeLength a_bytes a_isStart a_heightAt a_kindsAt a_isWaiting a_flowKinds a_globals a_objectType a_fieldValue a_isMarked a_frameMethod a_frameAt a_frameHeight a_slots : Nat → Int32) {post : Int32 → Prop} {m o b nm : Nat} (hm : m < 8) (ho : o < 21) (hb : b < 256) (hn : nm < 16) (eN : a_methodName m = nI nm) (J : post (nI (is_n1 o b nm))) : wpX_topNeed post (f_typeCount, f_methodCount, f_linked, f_faultPlace, f_flowHeight, f_active, f_ticksLeft, f_outcome, f_latestResult, a_typeAbove, a_fieldSet, a_methodType, a_methodName, a_codeLength, a_bytes, a_isStart, a_heightAt, a_kindsAt, a_isWaiting, a_flowKinds, a_globals, a_objectType, a_fieldValue, a_isMarked, a_frameMethod, a_frameAt, a_frameHeight, a_slots) (nI m) (nI o) (nI b) := by
  unfold wpX_topNeed
  rcases is_21 ho with rfl | rfl | rfl | rfl | rfl | rfl | rfl | rfl | rfl | rfl | rfl | rfl | rfl | rfl | rfl | rfl | rfl | rfl | rfl | rfl | rfl
  all_goals simp (disch := omega) only [nI_clamp, gm_clL, gm_in, gm_inL, gm_ml, gm_al, gm_la, gm_sl, nI_add, pk_mul, gm_eqL, gm_leL, gm_ltL, gm_Lle, gm_Llt, gm_eq, gm_le, gm_lt, gm_m1, forall_eq, true_and, Nat.not_lt_zero, Nat.add_sub_cancel, gm_z2, gm_z3, gm_z9, gm_z16, gm_z18, gm_z32, gm_z36, gm_z64, gm_z1152, not_true_eq_false, not_false_eq_true, false_implies, true_implies, and_true, implies_true, gm_z1, Nat.reduceEqDiff, Nat.reduceLT, Nat.reduceLeDiff, Nat.reduceAdd, Nat.reduceMul, Nat.reduceSub, eN]
  all_goals first | exact J | exact ev_vk (by omega) J | exact ev_ak (by omega) J
theorem ev_secondNeed {post : Int32 → Prop} {o : Nat} (ho : o < 21) (J : post (nI (is_n2 o))) : wpX_secondNeed post (nI o) := by
  unfold wpX_secondNeed
  rcases is_21 ho with rfl | rfl | rfl | rfl | rfl | rfl | rfl | rfl | rfl | rfl | rfl | rfl | rfl | rfl | rfl | rfl | rfl | rfl | rfl | rfl | rfl
  all_goals simp (disch := omega) only [nI_clamp, gm_clL, gm_in, gm_inL, gm_ml, gm_al, gm_la, gm_sl, nI_add, pk_mul, gm_eqL, gm_leL, gm_ltL, gm_Lle, gm_Llt, gm_eq, gm_le, gm_lt, gm_m1, forall_eq, true_and, Nat.not_lt_zero, Nat.add_sub_cancel, gm_z2, gm_z3, gm_z9, gm_z16, gm_z18, gm_z32, gm_z36, gm_z64, gm_z1152, not_true_eq_false, not_false_eq_true, false_implies, true_implies, and_true, implies_true, gm_z1, Nat.reduceEqDiff, Nat.reduceLT, Nat.reduceLeDiff, Nat.reduceAdd, Nat.reduceMul, Nat.reduceSub]
  all_goals exact J
theorem ev_givenKind {post : Int32 → Prop} {o b : Nat} (ho : o < 21) (hb : b < 256) (J : post (nI (is_gk o b))) : wpX_givenKind post (nI o) (nI b) := by
  unfold wpX_givenKind wX_givenKind_100
  rcases is_21 ho with rfl | rfl | rfl | rfl | rfl | rfl | rfl | rfl | rfl | rfl | rfl | rfl | rfl | rfl | rfl | rfl | rfl | rfl | rfl | rfl | rfl
  all_goals simp (disch := omega) only [nI_clamp, gm_clL, gm_in, gm_inL, gm_ml, gm_al, gm_la, gm_sl, nI_add, pk_mul, gm_eqL, gm_leL, gm_ltL, gm_Lle, gm_Llt, gm_eq, gm_le, gm_lt, gm_m1, forall_eq, true_and, Nat.not_lt_zero, Nat.add_sub_cancel, gm_z2, gm_z3, gm_z9, gm_z16, gm_z18, gm_z32, gm_z36, gm_z64, gm_z1152, not_true_eq_false, not_false_eq_true, false_implies, true_implies, and_true, implies_true, gm_z1, Nat.reduceEqDiff, Nat.reduceLT, Nat.reduceLeDiff, Nat.reduceAdd, Nat.reduceMul, Nat.reduceSub]
  all_goals first | exact J | exact ev_vk (by omega) J
end
section
theorem is_n1T {o : Nat} (b nm : Nat) (ho : o < 21) : (is_n1 o b nm ≠ 0 ↔ 1 ≤ is_tk o) ∧ is_n1 o b nm < 8 := by
  have hv : ∀ b, is_vk b ≠ 0 ∧ is_vk b < 8 := fun b => by unfold is_vk; split <;> simp
  have ha : ∀ b, is_ak b ≠ 0 ∧ is_ak b < 8 := fun b => by unfold is_ak; split <;> simp
  rcases is_21 ho with rfl | rfl | rfl | rfl | rfl | rfl | rfl | rfl | rfl | rfl | rfl | rfl | rfl | rfl | rfl | rfl | rfl | rfl | rfl | rfl | rfl
  all_goals simp [is_n1, is_tk, (hv b).1, (hv b).2, (ha b).1, (ha b).2, (hv nm).1, (hv nm).2]
theorem is_n2T : ∀ o, o < 21 → (is_n2 o ≠ 0 ↔ is_tk o = 2) ∧ is_n2 o < 8 ∧ is_tk o ≤ 2 := by decide
theorem is_gvT {o : Nat} (b : Nat) (ho : o < 21) (h1 : o ≠ 1) : (is_gk o b ≠ 0 ↔ is_gv o = true) ∧ is_gk o b < 8 ∧ (is_gk o b ≠ 0 → ¬ kd_in 2 (is_gk o b)) := by
  have hv : ∀ b, is_vk b ≠ 0 ∧ is_vk b < 8 ∧ ¬ kd_in 2 (is_vk b) := fun b => by unfold is_vk kd_in; split <;> decide
  rcases is_21 ho with rfl | rfl | rfl | rfl | rfl | rfl | rfl | rfl | rfl | rfl | rfl | rfl | rfl | rfl | rfl | rfl | rfl | rfl | rfl | rfl | rfl
  all_goals first | exact absurd rfl h1 | exact ⟨⟨fun _ => rfl, fun _ => (hv b).1⟩, (hv b).2.1, fun _ => (hv b).2.2⟩ | (simp [is_gk, is_gv, kd_in, kd_m]; done)
theorem kd_tst : ∀ a, a < 8 → ∀ n, n < 8 → ((nI a &&& (nI n ^^^ (-1))) = 0 ↔ kd_sub a n) := by unfold kd_sub kd_in; decide +kernel
theorem kd_ts1 : ∀ a, a < 8 → ((nI a &&& 1) = 0 ↔ ¬ kd_in 2 a) := by unfold kd_in; decide +kernel
/-- taking -/
def tkOK (o b nm : Nat) (k : Nat → Nat) (h : Nat) : Prop := is_tk o ≤ h ∧ (1 ≤ is_tk o → kd_sub (k (3 + h)) (is_n1 o b nm)) ∧ (is_tk o = 2 → kd_sub (k (2 + h)) (is_n2 o))
theorem ev_take (f_typeCount f_methodCount f_linked f_faultPlace f_active f_ticksLeft f_outcome f_latestResult : Int32) (a_typeAbove a_fieldSet a_methodType a_methodName a_codeLength a_bytes a_isStart a_heightAt a_kindsAt a_isWaiting a_flowKinds a_globals a_objectType a_fieldValue a_isMarked a_frameMethod a_frameAt a_frameHeight a_slots : Nat → Int32) {post : Int32 → SX → Prop} {m o b nm h : Nat} {k : Nat → Nat} (hm : m < 8) (ho : o < 21) (hb : b < 256) (hb2 : o = 2 → b < 4) (hn : nm < 16) (eN : a_methodName m = nI nm) (h5 : h ≤ 5) (hk : ∀ s, s < 4 + h → a_flowKinds s = nI (k s) ∧ k s < 8)
    (J1 : tkOK o b nm k h → post 1 (f_typeCount, f_methodCount, f_linked, f_faultPlace, nI (h - is_tk o), f_active, f_ticksLeft, f_outcome, f_latestResult, a_typeAbove, a_fieldSet, a_methodType, a_methodName, a_codeLength, a_bytes, a_isStart, a_heightAt, a_kindsAt, a_isWaiting, if o = 2 then upd a_flowKinds b (nI (k (3 + h))) else a_flowKinds, a_globals, a_objectType, a_fieldValue, a_isMarked, a_frameMethod, a_frameAt, a_frameHeight, a_slots)) (J0 : ¬ tkOK o b nm k h → post 0 (f_typeCount, f_methodCount, f_linked, f_faultPlace, nI h, f_active, f_ticksLeft, f_outcome, f_latestResult, a_typeAbove, a_fieldSet, a_methodType, a_methodName, a_codeLength, a_bytes, a_isStart, a_heightAt, a_kindsAt, a_isWaiting, a_flowKinds, a_globals, a_objectType, a_fieldValue, a_isMarked, a_frameMethod, a_frameAt, a_frameHeight, a_slots)) : wpX_takeEntries post (f_typeCount, f_methodCount, f_linked, f_faultPlace, nI h, f_active, f_ticksLeft, f_outcome, f_latestResult, a_typeAbove, a_fieldSet, a_methodType, a_methodName, a_codeLength, a_bytes, a_isStart, a_heightAt, a_kindsAt, a_isWaiting, a_flowKinds, a_globals, a_objectType, a_fieldValue, a_isMarked, a_frameMethod, a_frameAt, a_frameHeight, a_slots) (nI m) (nI o) (nI b) := by
  obtain ⟨n1a, n1b⟩ := is_n1T b nm ho
  obtain ⟨n2a, n2b, t2⟩ := is_n2T o ho
  have hgo : ∀ t : Nat, t = is_tk o → ∀ z1 z0 : Int32, z1 + z0 = nI t → wX_takeEntries_35 post (nI o) (nI b) (nI (is_n1 o b nm)) (nI (is_n2 o)) z0 z1 f_typeCount f_methodCount f_linked f_faultPlace (nI h) f_active f_ticksLeft f_outcome f_latestResult a_typeAbove a_fieldSet a_methodType a_methodName a_codeLength a_bytes a_isStart a_heightAt a_kindsAt a_isWaiting a_flowKinds a_globals a_objectType a_fieldValue a_isMarked a_frameMethod a_frameAt a_frameHeight a_slots := by
    intro t ht z1 z0 ez
    have h107 : tkOK o b nm k h → wX_takeEntries_107 post (nI o) (nI b) (nI t) (nI (4 + h - 1)) f_typeCount f_methodCount f_linked f_faultPlace (nI h) f_active f_ticksLeft f_outcome f_latestResult a_typeAbove a_fieldSet a_methodType a_methodName a_codeLength a_bytes a_isStart a_heightAt a_kindsAt a_isWaiting a_flowKinds a_globals a_objectType a_fieldValue a_isMarked a_frameMethod a_frameAt a_frameHeight a_slots := by
      intro hok
      have h1 := hok.1
      have J := J1 hok
      unfold wX_takeEntries_107 wX_takeEntries_125
      by_cases e2 : o = 2
      · subst e2
        have ht1 : t = 1 := ht
        have h4 := hb2 rfl
        subst ht1
        have h1' : 1 ≤ h := h1
        have hks := hk (4 + h - 1) (by omega)
        have e4 : 4 + h - 1 = 3 + h := by omega
        rw [e4] at hks ⊢
        rw [if_pos rfl] at J
        simp (disch := omega) only [nI_clamp, gm_clL, gm_in, gm_inL, gm_ml, gm_al, gm_la, gm_sl, nI_add, pk_mul, gm_eqL, gm_leL, gm_ltL, gm_Lle, gm_Llt, gm_eq, gm_le, gm_lt, gm_m1, forall_eq, true_and, Nat.not_lt_zero, Nat.add_sub_cancel, gm_z2, gm_z3, gm_z9, gm_z16, gm_z18, gm_z32, gm_z36, gm_z64, gm_z1152, not_true_eq_false, not_false_eq_true, false_implies, true_implies, and_true, implies_true, gm_z1, Nat.reduceEqDiff, Nat.reduceLT, Nat.reduceLeDiff, Nat.reduceAdd, Nat.reduceMul, Nat.reduceSub, gm_sb, hks.1]
        exact J
      · rw [if_neg e2] at J
        refine br_f (by rw [gm_eqL (by omega) (by omega)]; exact e2) (nm_r (gm_sb (by omega)) ?_)
        rw [ht]; exact J
    have h82 : is_tk o ≤ h → (1 ≤ is_tk o → kd_sub (k (3 + h)) (is_n1 o b nm)) → wX_takeEntries_82 post (nI o) (nI b) (nI (is_n2 o)) (nI t) (nI (4 + h - 1)) f_typeCount f_methodCount f_linked f_faultPlace (nI h) f_active f_ticksLeft f_outcome f_latestResult a_typeAbove a_fieldSet a_methodType a_methodName a_codeLength a_bytes a_isStart a_heightAt a_kindsAt a_isWaiting a_flowKinds a_globals a_objectType a_fieldValue a_isMarked a_frameMethod a_frameAt a_frameHeight a_slots := by
      intro a1 a2
      unfold wX_takeEntries_82
      by_cases e2 : t = 2
      · have hks := hk (2 + h) (by omega)
        subst e2
        have e4 : 4 + h - 1 - 1 = 2 + h := by omega
        simp (disch := omega) only [nI_clamp, gm_clL, gm_in, gm_inL, gm_ml, gm_al, gm_la, gm_sl, nI_add, pk_mul, gm_eqL, gm_leL, gm_ltL, gm_Lle, gm_Llt, gm_eq, gm_le, gm_lt, gm_m1, forall_eq, true_and, Nat.not_lt_zero, Nat.add_sub_cancel, gm_z2, gm_z3, gm_z9, gm_z16, gm_z18, gm_z32, gm_z36, gm_z64, gm_z1152, not_true_eq_false, not_false_eq_true, false_implies, true_implies, and_true, implies_true, gm_z1, Nat.reduceEqDiff, Nat.reduceLT, Nat.reduceLeDiff, Nat.reduceAdd, Nat.reduceMul, Nat.reduceSub, e4, hks.1, kd_tst _ hks.2 _ n2b]
        exact ⟨fun z => h107 ⟨a1, a2, fun _ => z⟩, fun z => J0 (fun w => z (w.2.2 ht.symm))⟩
      · refine br_f (by rw [gm_eqL (by omega) (by omega)]; exact e2) (h107 ⟨a1, a2, fun z => absurd (ht.trans z) e2⟩)
    unfold wX_takeEntries_35
    refine nm_r ez (pk_le t h (fun c => ?_) (fun c => J0 (fun w => by have := w.1; omega)))
    have e3 : (4 + nI h) - 1 = nI (4 + h - 1) := by simp (disch := omega) only [gm_la, gm_sl]
    refine nm_r e3 (pk_lt t 1 (fun c1 => h82 (by omega) (fun z => absurd z (by omega))) (fun c1 => ?_))
    have hks := hk (3 + h) (by omega)
    have e4 : 4 + h - 1 = 3 + h := by omega
    rw [e4] at h82 ⊢
    rw [nI_clamp (by omega), hks.1, kd_tst _ hks.2 _ n1b]
    exact ⟨vp_in_nI (by omega) (by omega), fun z => h82 (by omega) (fun _ => z), fun z => J0 (fun w => z (w.2.1 (by omega)))⟩
  unfold wpX_takeEntries
  refine ev_topNeed f_typeCount f_methodCount f_linked f_faultPlace (nI h) f_active f_ticksLeft f_outcome f_latestResult a_typeAbove a_fieldSet a_methodType a_methodName a_codeLength a_bytes a_isStart a_heightAt a_kindsAt a_isWaiting a_flowKinds a_globals a_objectType a_fieldValue a_isMarked a_frameMethod a_frameAt a_frameHeight a_slots hm ho hb hn eN (ev_secondNeed ho ?_)
  unfold wX_takeEntries_25
  simp (disch := omega) only [gm_eqL]
  refine ⟨fun a => ⟨fun c => hgo 0 ?_ 0 0 rfl, fun c => absurd c ?_⟩, fun a => ⟨fun c => hgo 1 ?_ 1 0 rfl, fun c => hgo 2 ?_ 1 1 rfl⟩⟩
  · have : ¬ 1 ≤ is_tk o := fun z => n1a.mpr z a
    omega
  · intro c
    have : ¬ 1 ≤ is_tk o := fun z => n1a.mpr z a
    have := n2a.mp c
    omega
  · have h1 := n1a.mp a
    have : ¬ is_tk o = 2 := fun z => n2a.mpr z c
    omega
  · exact (n2a.mp c).symm
/-- giving -/
theorem ev_give (f_typeCount f_methodCount f_linked f_faultPlace f_active f_ticksLeft f_outcome f_latestResult : Int32) (a_typeAbove a_fieldSet a_methodType a_methodName a_codeLength a_bytes a_isStart a_heightAt a_kindsAt a_isWaiting a_flowKinds a_globals a_objectType a_fieldValue a_isMarked a_frameMethod a_frameAt a_frameHeight a_slots : Nat → Int32) {post : Int32 → SX → Prop} {o b h1 : Nat} {kb : Nat} (ho : o < 21) (hb : b < 256) (hb1 : o = 1 → b < 4 ∧ a_flowKinds b = nI kb ∧ kb < 8 ∧ 0 < kb) (h5 : h1 ≤ 5)
    (J1 : (o = 1 → ¬ kd_in 2 kb) → (is_gv o = true → h1 < 5) → post 1 (f_typeCount, f_methodCount, f_linked, f_faultPlace, nI (h1 + (if is_gv o = true then 1 else 0)), f_active, f_ticksLeft, f_outcome, f_latestResult, a_typeAbove, a_fieldSet, a_methodType, a_methodName, a_codeLength, a_bytes, a_isStart, a_heightAt, a_kindsAt, a_isWaiting, if is_gv o = true then upd a_flowKinds (4 + h1) (nI (if o = 1 then kb else is_gk o b)) else a_flowKinds, a_globals, a_objectType, a_fieldValue, a_isMarked, a_frameMethod, a_frameAt, a_frameHeight, a_slots)) (J0 : ¬ ((o = 1 → ¬ kd_in 2 kb) ∧ (is_gv o = true → h1 < 5)) → post 0 (f_typeCount, f_methodCount, f_linked, f_faultPlace, nI h1, f_active, f_ticksLeft, f_outcome, f_latestResult, a_typeAbove, a_fieldSet, a_methodType, a_methodName, a_codeLength, a_bytes, a_isStart, a_heightAt, a_kindsAt, a_isWaiting, a_flowKinds, a_globals, a_objectType, a_fieldValue, a_isMarked, a_frameMethod, a_frameAt, a_frameHeight, a_slots)) : wpX_giveEntry post (f_typeCount, f_methodCount, f_linked, f_faultPlace, nI h1, f_active, f_ticksLeft, f_outcome, f_latestResult, a_typeAbove, a_fieldSet, a_methodType, a_methodName, a_codeLength, a_bytes, a_isStart, a_heightAt, a_kindsAt, a_isWaiting, a_flowKinds, a_globals, a_objectType, a_fieldValue, a_isMarked, a_frameMethod, a_frameAt, a_frameHeight, a_slots) (nI o) (nI b) := by
  unfold wpX_giveEntry
  by_cases e1 : o = 1
  · obtain ⟨c1, c2, c3, c4⟩ := hb1 e1
    subst e1
    refine br_t rfl ⟨vp_in_nI (by omega) (by omega), ?_⟩
    have g1 : is_gv 1 = true := rfl
    rw [nI_clamp (by omega), c2]
    unfold wX_giveEntry_19
    refine br_f (nI_ne0 c4 (by omega)) ?_
    rw [kd_ts1 _ c3]
    refine ⟨fun a => pk_eq h1 5 (fun e => J0 (fun w => by have := w.2 g1; omega)) (fun e => ?_), fun a => J0 (fun w => a (w.1 rfl))⟩
    have J := J1 (fun _ => a) (fun _ => by omega)
    simp (disch := omega) only [nI_clamp, gm_clL, gm_in, gm_inL, gm_ml, gm_al, gm_la, gm_sl, nI_add, pk_mul, gm_eqL, gm_leL, gm_ltL, gm_Lle, gm_Llt, gm_eq, gm_le, gm_lt, gm_m1, forall_eq, true_and, Nat.not_lt_zero, Nat.add_sub_cancel, gm_z2, gm_z3, gm_z9, gm_z16, gm_z18, gm_z32, gm_z36, gm_z64, gm_z1152, not_true_eq_false, not_false_eq_true, false_implies, true_implies, and_true, implies_true, gm_z1, Nat.reduceEqDiff, Nat.reduceLT, Nat.reduceLeDiff, Nat.reduceAdd, Nat.reduceMul, Nat.reduceSub]
    exact J
  · refine br_f (by rw [gm_eqL (by omega) (by omega)]; exact e1) (ev_givenKind ho hb ?_)
    obtain ⟨g1, g2, g3⟩ := is_gvT b ho e1
    unfold wX_giveEntry_19
    refine pk_eq (is_gk o b) 0 (fun a => ?_) (fun a => ?_)
    · have hg : is_gv o = false := by
        cases hg : is_gv o
        · rfl
        · exact absurd a (g1.mpr hg)
      have J := J1 (fun z => absurd z e1) (fun z => by rw [hg] at z; exact nomatch z)
      rw [hg] at J
      exact J
    · have hg := g1.mp a
      rw [hg] at J1 J0
      refine br_t ((kd_ts1 _ g2).mpr (g3 a)) (pk_eq h1 5 (fun e => J0 (fun w => by have := w.2 rfl; omega)) (fun e => ?_))
      have J := J1 (fun z => absurd z e1) (fun _ => by omega)
      rw [if_neg e1] at J
      simp (disch := omega) only [nI_clamp, gm_clL, gm_in, gm_inL, gm_ml, gm_al, gm_la, gm_sl, nI_add, pk_mul, gm_eqL, gm_leL, gm_ltL, gm_Lle, gm_Llt, gm_eq, gm_le, gm_lt, gm_m1, forall_eq, true_and, Nat.not_lt_zero, Nat.add_sub_cancel, gm_z2, gm_z3, gm_z9, gm_z16, gm_z18, gm_z32, gm_z36, gm_z64, gm_z1152, not_true_eq_false, not_false_eq_true, false_implies, true_implies, and_true, implies_true, gm_z1, Nat.reduceEqDiff, Nat.reduceLT, Nat.reduceLeDiff, Nat.reduceAdd, Nat.reduceMul, Nat.reduceSub]
      exact J
/-- both: the kinds behind are the transfer's -/
theorem ev_tg (f_typeCount f_methodCount f_linked f_faultPlace f_active f_ticksLeft f_outcome f_latestResult : Int32) (a_typeAbove a_fieldSet a_methodType a_methodName a_codeLength a_bytes a_isStart a_heightAt a_kindsAt a_isWaiting a_flowKinds a_globals a_objectType a_fieldValue a_isMarked a_frameMethod a_frameAt a_frameHeight a_slots : Nat → Int32) {m o b nm h : Nat} {k : Nat → Nat} (hm : m < 8) (ho : o < 21) (hb : b < 256) (hb1 : o = 1 → b < 4) (hb2 : o = 2 → b < 4) (hn : nm < 16) (eN : a_methodName m = nI nm) (h5 : h ≤ 5) (hk : ∀ s, s < 4 + h → a_flowKinds s = nI (k s) ∧ 0 < k s ∧ k s < 8) :
    ∃ (fh : Int32) (FK : Nat → Int32), (xk_ok o b nm k h → fh = nI (wy_h o h) ∧ ∀ s, s < 4 + wy_h o h → FK s = nI (xk_t o b k h s)) ∧ ∀ (post : Int32 → SX → Prop) (Q : SX → Prop), (¬ xk_ok o b nm k h → post 0 (f_typeCount, f_methodCount, f_linked, f_faultPlace, fh, f_active, f_ticksLeft, f_outcome, f_latestResult, a_typeAbove, a_fieldSet, a_methodType, a_methodName, a_codeLength, a_bytes, a_isStart, a_heightAt, a_kindsAt, a_isWaiting, FK, a_globals, a_objectType, a_fieldValue, a_isMarked, a_frameMethod, a_frameAt, a_frameHeight, a_slots)) → (xk_ok o b nm k h → Q (f_typeCount, f_methodCount, f_linked, f_faultPlace, fh, f_active, f_ticksLeft, f_outcome, f_latestResult, a_typeAbove, a_fieldSet, a_methodType, a_methodName, a_codeLength, a_bytes, a_isStart, a_heightAt, a_kindsAt, a_isWaiting, FK, a_globals, a_objectType, a_fieldValue, a_isMarked, a_frameMethod, a_frameAt, a_frameHeight, a_slots)) →
    wpX_takeEntries (fun r u => match u with | (f_typeCount1, f_methodCount1, f_linked1, f_faultPlace1, f_flowHeight1, f_active1, f_ticksLeft1, f_outcome1, f_latestResult1, a_typeAbove1, a_fieldSet1, a_methodType1, a_methodName1, a_codeLength1, a_bytes1, a_isStart1, a_heightAt1, a_kindsAt1, a_isWaiting1, a_flowKinds1, a_globals1, a_objectType1, a_fieldValue1, a_isMarked1, a_frameMethod1, a_frameAt1, a_frameHeight1, a_slots1) => (((r = 0 → (post 0 (f_typeCount1, f_methodCount1, f_linked1, f_faultPlace1, f_flowHeight1, f_active1, f_ticksLeft1, f_outcome1, f_latestResult1, a_typeAbove1, a_fieldSet1, a_methodType1, a_methodName1, a_codeLength1, a_bytes1, a_isStart1, a_heightAt1, a_kindsAt1, a_isWaiting1, a_flowKinds1, a_globals1, a_objectType1, a_fieldValue1, a_isMarked1, a_frameMethod1, a_frameAt1, a_frameHeight1, a_slots1))) ∧ (¬ r = 0 → (wpX_giveEntry (fun r u => match u with | (f_typeCount2, f_methodCount2, f_linked2, f_faultPlace2, f_flowHeight2, f_active2, f_ticksLeft2, f_outcome2, f_latestResult2, a_typeAbove2, a_fieldSet2, a_methodType2, a_methodName2, a_codeLength2, a_bytes2, a_isStart2, a_heightAt2, a_kindsAt2, a_isWaiting2, a_flowKinds2, a_globals2, a_objectType2, a_fieldValue2, a_isMarked2, a_frameMethod2, a_frameAt2, a_frameHeight2, a_slots2) => (((r = 0 → (post 0 (f_typeCount2, f_methodCount2, f_linked2, f_faultPlace2, f_flowHeight2, f_active2, f_ticksLeft2, f_outcome2, f_latestResult2, a_typeAbove2, a_fieldSet2, a_methodType2, a_methodName2, a_codeLength2, a_bytes2, a_isStart2, a_heightAt2, a_kindsAt2, a_isWaiting2, a_flowKinds2, a_globals2, a_objectType2, a_fieldValue2, a_isMarked2, a_frameMethod2, a_frameAt2, a_frameHeight2, a_slots2))) ∧ (¬ r = 0 → Q (f_typeCount2, f_methodCount2, f_linked2, f_faultPlace2, f_flowHeight2, f_active2, f_ticksLeft2, f_outcome2, f_latestResult2, a_typeAbove2, a_fieldSet2, a_methodType2, a_methodName2, a_codeLength2, a_bytes2, a_isStart2, a_heightAt2, a_kindsAt2, a_isWaiting2, a_flowKinds2, a_globals2, a_objectType2, a_fieldValue2, a_isMarked2, a_frameMethod2, a_frameAt2, a_frameHeight2, a_slots2))))) (f_typeCount1, f_methodCount1, f_linked1, f_faultPlace1, f_flowHeight1, f_active1, f_ticksLeft1, f_outcome1, f_latestResult1, a_typeAbove1, a_fieldSet1, a_methodType1, a_methodName1, a_codeLength1, a_bytes1, a_isStart1, a_heightAt1, a_kindsAt1, a_isWaiting1, a_flowKinds1, a_globals1, a_objectType1, a_fieldValue1, a_isMarked1, a_frameMethod1, a_frameAt1, a_frameHeight1, a_slots1) (nI o) (nI b)))))) (f_typeCount, f_methodCount, f_linked, f_faultPlace, nI h, f_active, f_ticksLeft, f_outcome, f_latestResult, a_typeAbove, a_fieldSet, a_methodType, a_methodName, a_codeLength, a_bytes, a_isStart, a_heightAt, a_kindsAt, a_isWaiting, a_flowKinds, a_globals, a_objectType, a_fieldValue, a_isMarked, a_frameMethod, a_frameAt, a_frameHeight, a_slots) (nI m) (nI o) (nI b) := by
  have e12 : o = 1 → o ≠ 2 := fun e => by omega
  by_cases hok : tkOK o b nm k h
  · have hg : o = 1 → b < 4 ∧ (if o = 2 then upd a_flowKinds b (nI (k (3 + h))) else a_flowKinds) b = nI (k b) ∧ k b < 8 ∧ 0 < k b := fun e => ⟨hb1 e, by rw [if_neg (e12 e)]; exact (hk b (by have := hb1 e; omega)).1, (hk b (by have := hb1 e; omega)).2.2, (hk b (by have := hb1 e; omega)).2.1⟩
    by_cases hgv : (o = 1 → ¬ kd_in 2 (k b)) ∧ (is_gv o = true → h - is_tk o < 5)
    · have hx : xk_ok o b nm k h := ⟨hok.1, hok.2.1, hok.2.2, hgv.1, hgv.2⟩
      refine ⟨nI (wy_h o h), if is_gv o = true then upd (if o = 2 then upd a_flowKinds b (nI (k (3 + h))) else a_flowKinds) (4 + (h - is_tk o)) (nI (if o = 1 then k b else is_gk o b)) else (if o = 2 then upd a_flowKinds b (nI (k (3 + h))) else a_flowKinds), fun _ => ⟨rfl, ?_⟩, fun post Q J0 J1 => ?_⟩
      rotate_left
      · refine ev_take f_typeCount f_methodCount f_linked f_faultPlace f_active f_ticksLeft f_outcome f_latestResult a_typeAbove a_fieldSet a_methodType a_methodName a_codeLength a_bytes a_isStart a_heightAt a_kindsAt a_isWaiting a_flowKinds a_globals a_objectType a_fieldValue a_isMarked a_frameMethod a_frameAt a_frameHeight a_slots hm ho hb hb2 hn eN h5 (fun s hs => ⟨(hk s hs).1, (hk s hs).2.2⟩) (fun _ => br_f (by decide) ?_) (fun z => absurd hok z)
        refine ev_give f_typeCount f_methodCount f_linked f_faultPlace f_active f_ticksLeft f_outcome f_latestResult a_typeAbove a_fieldSet a_methodType a_methodName a_codeLength a_bytes a_isStart a_heightAt a_kindsAt a_isWaiting (if o = 2 then upd a_flowKinds b (nI (k (3 + h))) else a_flowKinds) a_globals a_objectType a_fieldValue a_isMarked a_frameMethod a_frameAt a_frameHeight a_slots (kb := k b) ho hb hg (by omega) (fun a1 a2 => br_f (by decide) ?_) (fun a => absurd hgv a)
        exact J1 hx
      · intro s hs
        have t0 := hok.1
        have base : ∀ s, s < 4 + (h - is_tk o) → (if o = 2 then upd a_flowKinds b (nI (k (3 + h))) else a_flowKinds) s = nI (if o = 2 ∧ s = b then k (3 + h) else k s) := by
          intro s hs
          by_cases e2 : o = 2
          · rw [if_pos e2]
            by_cases e3 : s = b
            · subst e3; rw [pk_us, if_pos ⟨e2, rfl⟩]
            · rw [pk_un e3, if_neg (fun w => e3 w.2)]; exact (hk s (by omega)).1
          · rw [if_neg e2, if_neg (fun w => e2 w.1)]; exact (hk s (by omega)).1
        unfold xk_t
        unfold wy_h at hs
        by_cases h4 : s < 4
        · rw [if_pos h4, ← base s (by omega)]
          cases hg : is_gv o
          · rfl
          · rw [if_pos rfl, pk_un (by omega)]
        · rw [if_neg h4]
          by_cases h2 : s < 4 + (h - is_tk o)
          · rw [if_pos h2]
            have e3 : ¬ (o = 2 ∧ s = b) := fun w => by have := hb2 w.1; omega
            have hbs := base s h2
            rw [if_neg e3] at hbs
            rw [← hbs]
            cases hg : is_gv o
            · rfl
            · rw [if_pos rfl, pk_un (by omega)]
          · rw [if_neg h2]
            have hg : is_gv o = true := by
              cases hg : is_gv o
              · rw [hg] at hs; simp at hs; omega
              · rfl
            rw [hg] at hs ⊢
            simp only [if_true] at hs ⊢
            have e3 : s = 4 + (h - is_tk o) := by omega
            rw [e3, pk_us]
    · have hx : ¬ xk_ok o b nm k h := fun w => hgv ⟨w.2.2.2.1, w.2.2.2.2⟩
      refine ⟨nI (h - is_tk o), (if o = 2 then upd a_flowKinds b (nI (k (3 + h))) else a_flowKinds), fun w => absurd w hx, fun post Q J0 J1 => ?_⟩
      refine ev_take f_typeCount f_methodCount f_linked f_faultPlace f_active f_ticksLeft f_outcome f_latestResult a_typeAbove a_fieldSet a_methodType a_methodName a_codeLength a_bytes a_isStart a_heightAt a_kindsAt a_isWaiting a_flowKinds a_globals a_objectType a_fieldValue a_isMarked a_frameMethod a_frameAt a_frameHeight a_slots hm ho hb hb2 hn eN h5 (fun s hs => ⟨(hk s hs).1, (hk s hs).2.2⟩) (fun _ => br_f (by decide) ?_) (fun z => absurd hok z)
      exact ev_give f_typeCount f_methodCount f_linked f_faultPlace f_active f_ticksLeft f_outcome f_latestResult a_typeAbove a_fieldSet a_methodType a_methodName a_codeLength a_bytes a_isStart a_heightAt a_kindsAt a_isWaiting (if o = 2 then upd a_flowKinds b (nI (k (3 + h))) else a_flowKinds) a_globals a_objectType a_fieldValue a_isMarked a_frameMethod a_frameAt a_frameHeight a_slots (kb := k b) ho hb hg (by omega) (fun a1 a2 => absurd ⟨a1, a2⟩ hgv) (fun a => br_t rfl (J0 hx))
  · have hx : ¬ xk_ok o b nm k h := fun w => hok ⟨w.1, w.2.1, w.2.2.1⟩
    refine ⟨nI h, a_flowKinds, fun w => absurd w hx, fun post Q J0 J1 => ?_⟩
    exact ev_take f_typeCount f_methodCount f_linked f_faultPlace f_active f_ticksLeft f_outcome f_latestResult a_typeAbove a_fieldSet a_methodType a_methodName a_codeLength a_bytes a_isStart a_heightAt a_kindsAt a_isWaiting a_flowKinds a_globals a_objectType a_fieldValue a_isMarked a_frameMethod a_frameAt a_frameHeight a_slots hm ho hb hb2 hn eN h5 (fun s hs => ⟨(hk s hs).1, (hk s hs).2.2⟩) (fun z => absurd z hok) (fun z => br_t rfl (J0 hx))
end
section
theorem sg_eq {o : Nat} (b nm : Nat) (ho : o < 21) (h : is_sg o = true) : is_n1 o b nm = is_n1 o 0 nm ∧ is_gk o b = is_gk o 0 ∧ o ≠ 1 ∧ o ≠ 2 ∧ o ≠ 10 ∧ o ≠ 11 := by
  rcases is_21 ho with rfl | rfl | rfl | rfl | rfl | rfl | rfl | rfl | rfl | rfl | rfl | rfl | rfl | rfl | rfl | rfl | rfl | rfl | rfl | rfl | rfl
  all_goals first | exact absurd h (by decide) | exact ⟨rfl, rfl, by decide, by decide, by decide, by decide⟩
theorem sg_ok {o b nm h : Nat} {k : Nat → Nat} (ho : o < 21) (hs : is_sg o = true) : xk_ok o b nm k h ↔ xk_ok o 0 nm k h := by
  obtain ⟨e1, e2, e3, -⟩ := sg_eq b nm ho hs
  unfold xk_ok
  rw [e1]
  exact ⟨fun ⟨a, b, c, d, e⟩ => ⟨a, b, c, fun z => absurd z e3, e⟩, fun ⟨a, b, c, d, e⟩ => ⟨a, b, c, fun z => absurd z e3, e⟩⟩
theorem sg_t {o b h s : Nat} {k : Nat → Nat} (ho : o < 21) (hs : is_sg o = true) : xk_t o b k h s = xk_t o 0 k h s := by
  obtain ⟨e1, e2, e3, e4, -⟩ := sg_eq b 0 ho hs
  unfold xk_t
  simp only [e2, e3, e4, if_false, false_and]
theorem xk_h5 {o b nm h : Nat} {k : Nat → Nat} (h5 : h ≤ 5) (c1 : xk_ok o b nm k h) : wy_h o h ≤ 5 := by
  unfold wy_h
  obtain ⟨x1, x2, x3, x4, x5⟩ := c1
  cases hg : is_gv o
  · simp; omega
  · have := x5 hg; simp; omega
theorem xk_cg {o b nm h : Nat} {k k' : Nat → Nat} (hb : o = 1 → b < 4) (hkk : ∀ s, s < 4 + h → k' s = k s) (c1 : xk_ok o b nm k h) : xk_ok o b nm k' h ∧ ∀ s, s < 4 + wy_h o h → xk_t o b k' h s = xk_t o b k h s := by
  constructor
  · obtain ⟨x1, x2, x3, x4, x5⟩ := c1
    exact ⟨x1, fun z => by rw [hkk _ (by omega)]; exact x2 z, fun z => by rw [hkk _ (by omega)]; exact x3 z, fun z => by rw [hkk _ (by have := hb z; omega)]; exact x4 z, x5⟩
  · intro s hs
    unfold xk_t
    by_cases h4 : s < 4
    · rw [if_pos h4, if_pos h4]
      by_cases e2 : o = 2 ∧ s = b
      · rw [if_pos e2, if_pos e2]; exact hkk _ (by omega)
      · rw [if_neg e2, if_neg e2]; exact hkk _ (by omega)
    · rw [if_neg h4, if_neg h4]
      by_cases h2 : s < 4 + (h - is_tk o)
      · rw [if_pos h2, if_pos h2]; exact hkk _ (by omega)
      · rw [if_neg h2, if_neg h2]
        by_cases e2 : o = 1
        · rw [if_pos e2, if_pos e2]; exact hkk _ (by have := hb e2; omega)
        · rw [if_neg e2, if_neg e2]
theorem fo_copy (f_typeCount f_methodCount f_linked f_faultPlace f_active f_ticksLeft f_outcome f_latestResult : Int32) (a_typeAbove a_fieldSet a_methodType a_methodName a_codeLength a_bytes a_isStart a_heightAt a_kindsAt a_isWaiting a_globals a_objectType a_fieldValue a_isMarked a_frameMethod a_frameAt a_frameHeight a_slots : Nat → Int32) {x1 x2 : Int32} {to h : Nat} (hto : to < 256) (h5 : h ≤ 5) : ∀ d s, s + d = 4 + h → ∀ FK : Nat → Int32, (∀ s', s' < s → FK s' = a_kindsAt (to * 9 + s')) → ∃ FK' : Nat → Int32, (∀ s', s' < 4 + h → FK' s' = a_kindsAt (to * 9 + s')) ∧ ∀ post, wX_flowOn_27 post x1 x2 (nI to) f_typeCount f_methodCount f_linked f_faultPlace (nI h) f_active f_ticksLeft f_outcome f_latestResult 1 (nI (4 + h)) a_typeAbove a_fieldSet a_methodType a_methodName a_codeLength a_bytes a_isStart a_heightAt a_kindsAt a_isWaiting FK' a_globals a_objectType a_fieldValue a_isMarked a_frameMethod a_frameAt a_frameHeight a_slots → wX_flowOn_27 post x1 x2 (nI to) f_typeCount f_methodCount f_linked f_faultPlace (nI h) f_active f_ticksLeft f_outcome f_latestResult (d + 1) (nI s) a_typeAbove a_fieldSet a_methodType a_methodName a_codeLength a_bytes a_isStart a_heightAt a_kindsAt a_isWaiting FK a_globals a_objectType a_fieldValue a_isMarked a_frameMethod a_frameAt a_frameHeight a_slots := by
  intro d
  induction d with
  | zero =>
    intro s hs FK hF
    cases (show s = 4 + h by omega)
    exact ⟨FK, hF, fun post J => J⟩
  | succ d ih =>
    intro s hs FK hF
    obtain ⟨FK', c1, c2⟩ := ih (s + 1) (by omega) (upd FK s (a_kindsAt (to * 9 + s))) (fun s' h1 => by
      by_cases e : s' = s
      · subst e; exact pk_us
      · rw [pk_un e]; exact hF s' (by omega))
    refine ⟨FK', c1, fun post J => ?_⟩
    have := c2 post J
    unfold wX_flowOn_27
    simp (disch := omega) only [nI_clamp, gm_clL, gm_in, gm_inL, gm_ml, gm_al, gm_la, gm_sl, nI_add, pk_mul, gm_eqL, gm_leL, gm_ltL, gm_Lle, gm_Llt, gm_eq, gm_le, gm_lt, gm_m1, forall_eq, true_and, Nat.not_lt_zero, Nat.add_sub_cancel, gm_z2, gm_z3, gm_z9, gm_z16, gm_z18, gm_z32, gm_z36, gm_z64, gm_z1152, not_true_eq_false, not_false_eq_true, false_implies, true_implies, and_true, implies_true]
    exact ⟨fun z => absurd z (by omega), fun _ => this⟩
theorem ar1 (f_typeCount f_methodCount f_linked f_faultPlace f_active f_ticksLeft f_outcome f_latestResult : Int32) (a_typeAbove a_fieldSet a_methodType a_methodName a_codeLength a_bytes a_isStart a_heightAt a_kindsAt a_isWaiting a_flowKinds a_globals a_objectType a_fieldValue a_isMarked a_frameMethod a_frameAt a_frameHeight a_slots : Nat → Int32) {m L nm e tc p' h' : Nat} {D : Nat → Nat} {S : Nat → Prop} {f : Nat → Nat} (F : fo_OK tc L D S) (I : XI m L nm D S e a_heightAt a_kindsAt a_isWaiting) (hm : m < 8) (eL : a_codeLength m = nI L) (h5 : h' ≤ 5) (hp : p' < 1000) (hf : ∀ s, s < 4 + h' → a_flowKinds s = nI (f s) ∧ 0 < f s ∧ f s < 8)
    (hS : p' < L → S p') (hbad : L ≤ p' → WBad D L nm) (hw : ¬ WBad D L nm → p' < L → xw D L nm p' h' f) :
    (WBad D L nm ∧ ∀ post : Int32 → SX → Prop, post 0 (f_typeCount, f_methodCount, f_linked, f_faultPlace, nI h', f_active, f_ticksLeft, f_outcome, f_latestResult, a_typeAbove, a_fieldSet, a_methodType, a_methodName, a_codeLength, a_bytes, a_isStart, a_heightAt, a_kindsAt, a_isWaiting, a_flowKinds, a_globals, a_objectType, a_fieldValue, a_isMarked, a_frameMethod, a_frameAt, a_frameHeight, a_slots) → wpX_arrive post (f_typeCount, f_methodCount, f_linked, f_faultPlace, nI h', f_active, f_ticksLeft, f_outcome, f_latestResult, a_typeAbove, a_fieldSet, a_methodType, a_methodName, a_codeLength, a_bytes, a_isStart, a_heightAt, a_kindsAt, a_isWaiting, a_flowKinds, a_globals, a_objectType, a_fieldValue, a_isMarked, a_frameMethod, a_frameAt, a_frameHeight, a_slots) (nI m) (nI p')) ∨
    (p' < L ∧ ∃ H' K' W', XI m L nm D S e H' K' W' ∧ XMon m a_heightAt a_kindsAt H' K' ∧ (H' (m * 32 + p') = nI h' ∧ ∀ s, s < 4 + h' → kd_sub (f s) (kk m K' p' s)) ∧ XRow m a_heightAt a_kindsAt a_isWaiting K' W' ∧ XGrow m a_heightAt a_kindsAt a_isWaiting H' K' W' ∧ XFr m a_heightAt a_kindsAt H' K' ∧
      ∀ post : Int32 → SX → Prop, post 1 (f_typeCount, f_methodCount, f_linked, f_faultPlace, nI h', f_active, f_ticksLeft, f_outcome, f_latestResult, a_typeAbove, a_fieldSet, a_methodType, a_methodName, a_codeLength, a_bytes, a_isStart, H', K', W', a_flowKinds, a_globals, a_objectType, a_fieldValue, a_isMarked, a_frameMethod, a_frameAt, a_frameHeight, a_slots) → wpX_arrive post (f_typeCount, f_methodCount, f_linked, f_faultPlace, nI h', f_active, f_ticksLeft, f_outcome, f_latestResult, a_typeAbove, a_fieldSet, a_methodType, a_methodName, a_codeLength, a_bytes, a_isStart, a_heightAt, a_kindsAt, a_isWaiting, a_flowKinds, a_globals, a_objectType, a_fieldValue, a_isMarked, a_frameMethod, a_frameAt, a_frameHeight, a_slots) (nI m) (nI p')) := by
  have hL := F.2.1
  obtain ⟨w1, w2, w3⟩ := ar_x f_typeCount f_methodCount f_linked f_faultPlace f_active f_ticksLeft f_outcome f_latestResult a_typeAbove a_fieldSet a_methodType a_methodName a_codeLength a_bytes a_isStart a_heightAt a_kindsAt a_isWaiting a_flowKinds a_globals a_objectType a_fieldValue a_isMarked a_frameMethod a_frameAt a_frameHeight a_slots (p' := p') hm hL eL h5 hp hf I.1
  by_cases hpL : p' < L
  · rcases I.2.1 p' (by omega) with ⟨e0, -⟩ | ⟨h0, h05, e0⟩
    · obtain ⟨H', K', W', A, J⟩ := w3 hpL (Or.inl e0)
      obtain ⟨x1, x2, x3, x4, x5, x6⟩ := ar_XI F I A hpL h5 (hS hpL) (fun s hs => (hf s hs).2) (fun nb => hw nb hpL)
      exact Or.inr ⟨hpL, H', K', W', x1, x2, x3, x4, x5, x6, J⟩
    · by_cases e : h0 = h'
      · subst e
        obtain ⟨H', K', W', A, J⟩ := w3 hpL (Or.inr e0)
        obtain ⟨x1, x2, x3, x4, x5, x6⟩ := ar_XI F I A hpL h5 (hS hpL) (fun s hs => (hf s hs).2) (fun nb => hw nb hpL)
        exact Or.inr ⟨hpL, H', K', W', x1, x2, x3, x4, x5, x6, J⟩
      · refine Or.inl ⟨Classical.byContradiction fun nb => nb ?_, w2 hpL h0 h05 e0 e⟩
        obtain ⟨⟨st, a1, a2⟩, -⟩ := I.2.2.2.1 nb p' hpL h0 h05 e0
        obtain ⟨⟨st', b1, b2⟩, -⟩ := hw nb hpL
        exact ⟨st, h0, a1, Or.inr (Or.inr ⟨st', h', b1, by rw [a2, b2], fun z => e z.symm⟩)⟩
  · exact Or.inl ⟨hbad (by omega), w1 (by omega)⟩
theorem XI_close {m L nm e : Nat} {D : Nat → Nat} {S : Nat → Prop} {H K W : Nat → Int32} (I : XI m L nm D S e H K W) (he : e < L → W (m * 32 + e) = 0 → ∀ h, h ≤ 5 → H (m * 32 + e) = nI h → xc m L nm D H K e h) : XI m L nm D S 99 H K W := by
  obtain ⟨i1, i2, i3, i4, i5⟩ := I
  refine ⟨i1, i2, i3, i4, fun p hp h hh eq hw0 _ => ?_⟩
  by_cases e2 : p = e
  · subst e2; exact he hp hw0 h hh eq
  · exact i5 p hp h hh eq hw0 e2
theorem XI_open {m L nm p : Nat} {D : Nat → Nat} {S : Nat → Prop} {H K W : Nat → Int32} (hL : L ≤ 32) (I : XI m L nm D S 99 H K W) : XI m L nm D S p H K (upd W (m * 32 + p) 0) := by
  obtain ⟨i1, i2, i3, i4, i5⟩ := I
  refine ⟨i1, fun q hq => (i2 q hq).imp (fun z => ⟨z.1, by by_cases e : q = p; subst e; exact pk_us; rw [pk_un (by omega)]; exact z.2⟩) id, i3, i4, fun q hq h hh eq hw0 hne => ?_⟩
  rw [pk_un (by omega)] at hw0
  exact i5 q hq h hh eq hw0 (by omega)
/-- the ways out of p -/
theorem xw_next {m L nm tc p h p' : Nat} {D : Nat → Nat} {S : Nat → Prop} {k : Nat → Nat} (F : fo_OK tc L D S) (hp : p < L) (hS : S p) (h5 : h ≤ 5) (nb : ¬ WBad D L nm) (w : xw D L nm p h k) (hx : xk_ok (D p) (D (p + 1)) nm k h) (hs : is_su (D p) (D (p + 1)) p p') (hp' : p' < L) : xw D L nm p' (wy_h (D p) h) (xk_t (D p) (D (p + 1)) k h) := by
  have hb := (fo_b4 F hp hS).1
  have ho : D p < 21 := (F.2.2.2 p hp hS).1
  have all : ∀ st, Way D L nm st h → wy_p st = p → wy_ok (D p) (D (p + 1)) nm st h := by
    intro st a1 a2
    refine Classical.byContradiction fun z => nb ⟨st, h, a1, Or.inl ?_⟩
    rw [a2]; exact z
  have step : ∀ st, Way D L nm st h → wy_p st = p → Way D L nm (wy_nx (D p) (D (p + 1)) st h p') (wy_h (D p) h) ∧ wy_p (wy_nx (D p) (D (p + 1)) st h p') = p' := by
    intro st a1 a2
    have hok := all st a1 a2
    refine ⟨?_, (wy_nxD hb hok h5).1⟩
    have := way_s (p' := p') a1 (by rw [a2]; exact hok) (by rw [a2]; exact hs) hp'
    rw [a2] at this
    exact this
  obtain ⟨⟨st, a1, a2⟩, w2⟩ := w
  refine ⟨⟨_, step st a1 a2⟩, fun s hs2 c hc hk => ?_⟩
  rcases xk_C (p' := p') ho hb h5 hx hs2 hc hk with ⟨s0, b1, b2, b3⟩ | b
  · obtain ⟨st0, d1, d2, d3⟩ := w2 s0 b1 c hc b2
    obtain ⟨f1, f2⟩ := step st0 d1 d2
    exact ⟨_, f1, f2, b3 st0 (all st0 d1 d2) d3⟩
  · obtain ⟨f1, f2⟩ := step st a1 a2
    exact ⟨_, f1, f2, b st (all st a1 a2)⟩
theorem xw_fail {L nm tc p h : Nat} {D : Nat → Nat} {S : Nat → Prop} {k : Nat → Nat} (F : fo_OK tc L D S) (hp : p < L) (hS : S p) (w : ¬ WBad D L nm → xw D L nm p h k) (hx : ¬ xk_ok (D p) (D (p + 1)) nm k h) : WBad D L nm := by
  refine Classical.byContradiction fun nb => ?_
  obtain ⟨⟨st, a1, a2⟩, w2⟩ := w nb
  rcases xk_B (fo_b4 F hp hS).1 hx with ⟨s, c, b1, b2, b3, b4⟩ | b
  · obtain ⟨st0, d1, d2, d3⟩ := w2 s b1 c b2 b3
    exact nb ⟨st0, h, d1, Or.inl (by rw [d2]; exact b4 st0 d3)⟩
  · exact nb ⟨st, h, a1, Or.inl (by rw [a2]; exact b st)⟩
end
section
def fl_Q (post : Int32 → SX → Prop) (m p o z sz : Int32) (u : SX) : Prop := match u with
  | (f_typeCount2, f_methodCount2, f_linked2, f_faultPlace2, f_flowHeight2, f_active2, f_ticksLeft2, f_outcome2, f_latestResult2, a_typeAbove2, a_fieldSet2, a_methodType2, a_methodName2, a_codeLength2, a_bytes2, a_isStart2, a_heightAt2, a_kindsAt2, a_isWaiting2, a_flowKinds2, a_globals2, a_objectType2, a_fieldValue2, a_isMarked2, a_frameMethod2, a_frameAt2, a_frameHeight2, a_slots2) => ((o = 18 → post 1 (f_typeCount2, f_methodCount2, f_linked2, f_faultPlace2, f_flowHeight2, f_active2, f_ticksLeft2, f_outcome2, f_latestResult2, a_typeAbove2, a_fieldSet2, a_methodType2, a_methodName2, a_codeLength2, a_bytes2, a_isStart2, a_heightAt2, a_kindsAt2, a_isWaiting2, a_flowKinds2, a_globals2, a_objectType2, a_fieldValue2, a_isMarked2, a_frameMethod2, a_frameAt2, a_frameHeight2, a_slots2)) ∧ (¬ o = 18 → ((o = 10 → wpX_arrive (fun r u => match u with | (f_typeCount3, f_methodCount3, f_linked3, f_faultPlace3, f_flowHeight3, f_active3, f_ticksLeft3, f_outcome3, f_latestResult3, a_typeAbove3, a_fieldSet3, a_methodType3, a_methodName3, a_codeLength3, a_bytes3, a_isStart3, a_heightAt3, a_kindsAt3, a_isWaiting3, a_flowKinds3, a_globals3, a_objectType3, a_fieldValue3, a_isMarked3, a_frameMethod3, a_frameAt3, a_frameHeight3, a_slots3) => (narrow .boolean (Value.int r) = Value.int r ∧ (post r (f_typeCount3, f_methodCount3, f_linked3, f_faultPlace3, f_flowHeight3, f_active3, f_ticksLeft3, f_outcome3, f_latestResult3, a_typeAbove3, a_fieldSet3, a_methodType3, a_methodName3, a_codeLength3, a_bytes3, a_isStart3, a_heightAt3, a_kindsAt3, a_isWaiting3, a_flowKinds3, a_globals3, a_objectType3, a_fieldValue3, a_isMarked3, a_frameMethod3, a_frameAt3, a_frameHeight3, a_slots3)))) (f_typeCount2, f_methodCount2, f_linked2, f_faultPlace2, f_flowHeight2, f_active2, f_ticksLeft2, f_outcome2, f_latestResult2, a_typeAbove2, a_fieldSet2, a_methodType2, a_methodName2, a_codeLength2, a_bytes2, a_isStart2, a_heightAt2, a_kindsAt2, a_isWaiting2, a_flowKinds2, a_globals2, a_objectType2, a_fieldValue2, a_isMarked2, a_frameMethod2, a_frameAt2, a_frameHeight2, a_slots2) m z) ∧ (¬ o = 10 → ((o = 11 → wpX_arrive (fun r u => match u with | (f_typeCount3, f_methodCount3, f_linked3, f_faultPlace3, f_flowHeight3, f_active3, f_ticksLeft3, f_outcome3, f_latestResult3, a_typeAbove3, a_fieldSet3, a_methodType3, a_methodName3, a_codeLength3, a_bytes3, a_isStart3, a_heightAt3, a_kindsAt3, a_isWaiting3, a_flowKinds3, a_globals3, a_objectType3, a_fieldValue3, a_isMarked3, a_frameMethod3, a_frameAt3, a_frameHeight3, a_slots3) => ((r = 0 → post 0 (f_typeCount3, f_methodCount3, f_linked3, f_faultPlace3, f_flowHeight3, f_active3, f_ticksLeft3, f_outcome3, f_latestResult3, a_typeAbove3, a_fieldSet3, a_methodType3, a_methodName3, a_codeLength3, a_bytes3, a_isStart3, a_heightAt3, a_kindsAt3, a_isWaiting3, a_flowKinds3, a_globals3, a_objectType3, a_fieldValue3, a_isMarked3, a_frameMethod3, a_frameAt3, a_frameHeight3, a_slots3)) ∧ (¬ r = 0 → wX_flowOn_166 post m p sz f_typeCount3 f_methodCount3 f_linked3 f_faultPlace3 f_flowHeight3 f_active3 f_ticksLeft3 f_outcome3 f_latestResult3 a_typeAbove3 a_fieldSet3 a_methodType3 a_methodName3 a_codeLength3 a_bytes3 a_isStart3 a_heightAt3 a_kindsAt3 a_isWaiting3 a_flowKinds3 a_globals3 a_objectType3 a_fieldValue3 a_isMarked3 a_frameMethod3 a_frameAt3 a_frameHeight3 a_slots3))) (f_typeCount2, f_methodCount2, f_linked2, f_faultPlace2, f_flowHeight2, f_active2, f_ticksLeft2, f_outcome2, f_latestResult2, a_typeAbove2, a_fieldSet2, a_methodType2, a_methodName2, a_codeLength2, a_bytes2, a_isStart2, a_heightAt2, a_kindsAt2, a_isWaiting2, a_flowKinds2, a_globals2, a_objectType2, a_fieldValue2, a_isMarked2, a_frameMethod2, a_frameAt2, a_frameHeight2, a_slots2) m z) ∧ (¬ o = 11 → wX_flowOn_166 post m p sz f_typeCount2 f_methodCount2 f_linked2 f_faultPlace2 f_flowHeight2 f_active2 f_ticksLeft2 f_outcome2 f_latestResult2 a_typeAbove2 a_fieldSet2 a_methodType2 a_methodName2 a_codeLength2 a_bytes2 a_isStart2 a_heightAt2 a_kindsAt2 a_isWaiting2 a_flowKinds2 a_globals2 a_objectType2 a_fieldValue2 a_isMarked2 a_frameMethod2 a_frameAt2 a_frameHeight2 a_slots2))))))
/-- one instruction of the class's check -/
theorem XGrow_t {m : Nat} {H K W H1 K1 W1 H2 K2 W2 : Nat → Int32} (m1 : XMon m H K H1 K1) (m2 : XMon m H1 K1 H2 K2) (a : XGrow m H K W H1 K1 W1) (b : XGrow m H1 K1 W1 H2 K2 W2) : XGrow m H K W H2 K2 W2 := by
  rcases a with ⟨j, hj, p1, p2⟩ | a
  · exact Or.inl ⟨j, hj, PB_mon m2 hj p1, p2⟩
  · rcases b with ⟨j, hj, p1, p2⟩ | b
    · exact Or.inl ⟨j, hj, p1, fun z => p2 (PB_mon m1 hj z)⟩
    · exact Or.inr (fun q hq => (b q hq).trans (a q hq))
theorem fl_96 (f_typeCount f_methodCount f_linked f_faultPlace f_active f_ticksLeft f_outcome f_latestResult : Int32) (a_typeAbove a_fieldSet a_methodType a_methodName a_codeLength a_bytes a_isStart a_heightAt a_kindsAt a_isWaiting a_flowKinds a_globals a_objectType a_fieldValue a_isMarked a_frameMethod a_frameAt a_frameHeight a_slots : Nat → Int32) {m L nm tc p h b0 : Nat} {D : Nat → Nat} {S : Nat → Prop} (F : fo_OK tc L D S) (I : XI m L nm D S p a_heightAt a_kindsAt a_isWaiting) (hm : m < 8) (eL : a_codeLength m = nI L) (hn : nm < 16) (eN : a_methodName m = nI nm) (hD : ∀ p, p < 33 → D p < 256)
    (hp : p < L) (h5 : h ≤ 5) (eH : a_heightAt (m * 32 + p) = nI h) (eW : a_isWaiting (m * 32 + p) = 0) (hb0 : b0 = if is_sg (D p) = true then 0 else D (p + 1)) (hk : ∀ s, s < 4 + h → a_flowKinds s = nI (kk m a_kindsAt p s)) :
    (WBad D L nm ∧ ∃ (fh : Int32) (FK H' K' W' : Nat → Int32), (∀ i, ∃ a, a < 8 ∧ K' i = nI a) ∧ XFr m a_heightAt a_kindsAt H' K' ∧ ∀ post : Int32 → SX → Prop, post 0 (f_typeCount, f_methodCount, f_linked, f_faultPlace, fh, f_active, f_ticksLeft, f_outcome, f_latestResult, a_typeAbove, a_fieldSet, a_methodType, a_methodName, a_codeLength, a_bytes, a_isStart, H', K', W', FK, a_globals, a_objectType, a_fieldValue, a_isMarked, a_frameMethod, a_frameAt, a_frameHeight, a_slots) → wX_flowOn_96 post (nI m) (nI p) (nI (D p)) (nI (is_sz (D p))) (nI b0) f_typeCount f_methodCount f_linked f_faultPlace (nI h) f_active f_ticksLeft f_outcome f_latestResult a_typeAbove a_fieldSet a_methodType a_methodName a_codeLength a_bytes a_isStart a_heightAt a_kindsAt a_isWaiting a_flowKinds a_globals a_objectType a_fieldValue a_isMarked a_frameMethod a_frameAt a_frameHeight a_slots) ∨
    (∃ (fh : Int32) (FK H' K' W' : Nat → Int32), XI m L nm D S 99 H' K' W' ∧ XMon m a_heightAt a_kindsAt H' K' ∧ XFr m a_heightAt a_kindsAt H' K' ∧ XGrow m a_heightAt a_kindsAt a_isWaiting H' K' W' ∧ ∀ post : Int32 → SX → Prop, post 1 (f_typeCount, f_methodCount, f_linked, f_faultPlace, fh, f_active, f_ticksLeft, f_outcome, f_latestResult, a_typeAbove, a_fieldSet, a_methodType, a_methodName, a_codeLength, a_bytes, a_isStart, H', K', W', FK, a_globals, a_objectType, a_fieldValue, a_isMarked, a_frameMethod, a_frameAt, a_frameHeight, a_slots) → wX_flowOn_96 post (nI m) (nI p) (nI (D p)) (nI (is_sz (D p))) (nI b0) f_typeCount f_methodCount f_linked f_faultPlace (nI h) f_active f_ticksLeft f_outcome f_latestResult a_typeAbove a_fieldSet a_methodType a_methodName a_codeLength a_bytes a_isStart a_heightAt a_kindsAt a_isWaiting a_flowKinds a_globals a_objectType a_fieldValue a_isMarked a_frameMethod a_frameAt a_frameHeight a_slots) := by
  have hL := F.2.1
  obtain ⟨hS, hpos⟩ := I.2.2.1 p hp h h5 eH
  obtain ⟨f1, f2, f3, f4, f5⟩ := F.2.2.2 p hp hS
  have hb4 := fo_b4 F hp hS
  have hD1 := hD (p + 1) (by omega)
  have hb256 : b0 < 256 := by rw [hb0]; split <;> omega
  have hdbl : is_sg (D p) = false → b0 = D (p + 1) := fun z => by rw [hb0, z]; rfl
  have hs0 : is_sg (D p) = true → b0 = 0 := fun z => by rw [hb0, z]; rfl
  have hok0 : xk_ok (D p) b0 nm (kk m a_kindsAt p) h ↔ xk_ok (D p) (D (p + 1)) nm (kk m a_kindsAt p) h := by
    cases z : is_sg (D p)
    · rw [hdbl z]
    · rw [hs0 z]; exact (sg_ok f1 z).symm
  have ht0 : ∀ s, xk_t (D p) b0 (kk m a_kindsAt p) h s = xk_t (D p) (D (p + 1)) (kk m a_kindsAt p) h s := by
    intro s
    cases z : is_sg (D p)
    · rw [hdbl z]
    · rw [hs0 z]; exact (sg_t f1 z).symm
  have hb14 : D p = 1 → b0 < 4 := fun z => by rw [hdbl (by rw [z]; rfl)]; exact hb4.1 z
  have hb24 : D p = 2 → b0 < 4 := fun z => by rw [hdbl (by rw [z]; rfl)]; exact hb4.2 z
  have hkk8 : ∀ s, kk m a_kindsAt p s < 8 := fun s => (kk_8 I p s).1
  have hk3 : ∀ s, s < 4 + h → a_flowKinds s = nI (kk m a_kindsAt p s) ∧ 0 < kk m a_kindsAt p s ∧ kk m a_kindsAt p s < 8 := fun s hs => ⟨hk s hs, hpos s hs, hkk8 s⟩
  have hwp : ¬ WBad D L nm → xw D L nm p h (kk m a_kindsAt p) := fun nb => I.2.2.2.1 nb p hp h h5 eH
  obtain ⟨fh, FK, t1, t2⟩ := ev_tg f_typeCount f_methodCount f_linked f_faultPlace f_active f_ticksLeft f_outcome f_latestResult a_typeAbove a_fieldSet a_methodType a_methodName a_codeLength a_bytes a_isStart a_heightAt a_kindsAt a_isWaiting a_flowKinds a_globals a_objectType a_fieldValue a_isMarked a_frameMethod a_frameAt a_frameHeight a_slots (k := kk m a_kindsAt p) hm f1 hb256 hb14 hb24 hn eN h5 hk3
  by_cases hx : xk_ok (D p) (D (p + 1)) nm (kk m a_kindsAt p) h
  · have hx0 := hok0.mpr hx
    have h5' := xk_h5 h5 hx
    obtain ⟨rfl, hFK0⟩ := t1 hx0
    have hFK : ∀ s, s < 4 + wy_h (D p) h → FK s = nI (xk_t (D p) (D (p + 1)) (kk m a_kindsAt p) h s) ∧ 0 < xk_t (D p) (D (p + 1)) (kk m a_kindsAt p) h s ∧ xk_t (D p) (D (p + 1)) (kk m a_kindsAt p) h s < 8 := fun s hs => ⟨by rw [hFK0 s hs, ht0 s], xk_pos f1 hb4.1 hx (fun s hs => ⟨hpos s hs, hkk8 s⟩) hs⟩
    -- the end: closure at p
    have close : ∀ H' K' W', XI m L nm D S p H' K' W' → XMon m a_heightAt a_kindsAt H' K' → XRow m a_heightAt a_kindsAt a_isWaiting K' W' → (∀ p', is_su (D p) (D (p + 1)) p p' → p' < L ∧ H' (m * 32 + p') = nI (wy_h (D p) h) ∧ ∀ s, s < 4 + wy_h (D p) h → kd_sub (xk_t (D p) (D (p + 1)) (kk m a_kindsAt p) h s) (kk m K' p' s)) → XI m L nm D S 99 H' K' W' := by
      intro H' K' W' I' M' R' hsu
      refine XI_close I' (fun _ hw0 h' hh' eH' => ?_)
      obtain ⟨m1, m2⟩ := M' p (by omega) h h5 eH
      rw [m1] at eH'
      cases gp_inj (by omega) (by omega) eH'
      obtain ⟨r1, r2⟩ := R' p (by omega) hw0
      obtain ⟨c1, c2⟩ := xk_cg hb4.1 (r2 h h5 eH) hx
      exact ⟨c1, fun p' hs => by
        obtain ⟨d1, d2, d3⟩ := hsu p' hs
        exact ⟨d1, d2, fun s hs => by rw [c2 s hs]; exact d3 s hs⟩⟩
    have bad : ∀ p', is_su (D p) (D (p + 1)) p p' → L ≤ p' → WBad D L nm := by
      intro p' hs hLp
      refine Classical.byContradiction fun nb => ?_
      obtain ⟨⟨st, a1, a2⟩, -⟩ := hwp nb
      exact nb ⟨st, h, a1, Or.inr (Or.inl ⟨p', by rw [a2]; exact hs, hLp⟩)⟩
    have nx : ∀ p', is_su (D p) (D (p + 1)) p p' → ¬ WBad D L nm → p' < L → xw D L nm p' (wy_h (D p) h) (xk_t (D p) (D (p + 1)) (kk m a_kindsAt p) h) := fun p' hs nb hp' => xw_next (m := m) F hp hS h5 nb (hwp nb) hx hs hp'
    have hz := hD p (by omega)
    by_cases e18 : D p = 18
    · refine Or.inr ⟨nI (wy_h (D p) h), FK, a_heightAt, a_kindsAt, a_isWaiting, close _ _ _ I (fun q hq h hh e => ⟨e, fun s hs c hc z => z⟩) (fun q hq e => ⟨e, fun h hh e s hs => rfl⟩) (fun p' hs => ?_), fun q hq h hh e => ⟨e, fun s hs c hc z => z⟩, ⟨fun i _ => rfl, fun i _ => rfl⟩, Or.inr (fun q hq => rfl), fun post J => ?_⟩
      · rcases hs with ⟨z | z, -⟩ | ⟨z, z2, -⟩
        · omega
        · omega
        · exact absurd e18 z2
      · unfold wX_flowOn_96
        refine t2 post (fl_Q post (nI m) (nI p) (nI (D p)) (nI b0) (nI (is_sz (D p)))) (fun z => absurd hx0 z) (fun _ => ?_)
        exact br_t (by rw [e18]; rfl) J
    · have n18 : ¬ nI (D p) = 18 := by rw [gm_eqL (by omega) (by omega)]; exact e18
      by_cases e10 : D p = 10
      · have hsu : ∀ p', is_su (D p) (D (p + 1)) p p' ↔ p' = D (p + 1) := fun p' => ⟨fun z => by rcases z with ⟨-, z⟩ | ⟨z, -⟩; exact z; exact absurd e10 z, fun z => Or.inl ⟨Or.inl e10, z⟩⟩
        have eb : b0 = D (p + 1) := hdbl (by rw [e10]; rfl)
        rcases ar1 f_typeCount f_methodCount f_linked f_faultPlace f_active f_ticksLeft f_outcome f_latestResult a_typeAbove a_fieldSet a_methodType a_methodName a_codeLength a_bytes a_isStart a_heightAt a_kindsAt a_isWaiting FK a_globals a_objectType a_fieldValue a_isMarked a_frameMethod a_frameAt a_frameHeight a_slots F I hm eL h5' (p' := D (p + 1)) (by omega) hFK (fun z => fo_su F hp hS ((hsu _).mpr rfl) z) (bad _ ((hsu _).mpr rfl)) (nx _ ((hsu _).mpr rfl)) with ⟨wb, J2⟩ | ⟨hp', H', K', W', i1, i2, i3, i4, i5, i6, J2⟩
        · refine Or.inl ⟨wb, nI (wy_h (D p) h), FK, a_heightAt, a_kindsAt, a_isWaiting, I.1, ⟨fun i _ => rfl, fun i _ => rfl⟩, fun post J => ?_⟩
          unfold wX_flowOn_96
          refine t2 post (fl_Q post (nI m) (nI p) (nI (D p)) (nI b0) (nI (is_sz (D p)))) (fun z => absurd hx0 z) (fun _ => ?_)
          refine br_f n18 (br_t (by rw [e10]; rfl) ?_)
          rw [eb]
          exact J2 _ ⟨rfl, J⟩
        · refine Or.inr ⟨nI (wy_h (D p) h), FK, H', K', W', close _ _ _ i1 i2 i4 (fun p' hs => ?_), i2, i6, i5, fun post J => ?_⟩
          · cases (hsu p').mp hs
            exact ⟨hp', i3.1, i3.2⟩
          · unfold wX_flowOn_96
            refine t2 post (fl_Q post (nI m) (nI p) (nI (D p)) (nI b0) (nI (is_sz (D p)))) (fun z => absurd hx0 z) (fun _ => ?_)
            refine br_f n18 (br_t (by rw [e10]; rfl) ?_)
            rw [eb]
            exact J2 _ ⟨rfl, J⟩
      · have n10 : ¬ nI (D p) = 10 := by rw [gm_eqL (by omega) (by omega)]; exact e10
        have su2 : is_su (D p) (D (p + 1)) p (p + is_sz (D p)) := Or.inr ⟨e10, e18, rfl⟩
        by_cases e11 : D p = 11
        · have su1 : is_su (D p) (D (p + 1)) p (D (p + 1)) := Or.inl ⟨Or.inr e11, rfl⟩
          have eb : b0 = D (p + 1) := hdbl (by rw [e11]; rfl)
          rcases ar1 f_typeCount f_methodCount f_linked f_faultPlace f_active f_ticksLeft f_outcome f_latestResult a_typeAbove a_fieldSet a_methodType a_methodName a_codeLength a_bytes a_isStart a_heightAt a_kindsAt a_isWaiting FK a_globals a_objectType a_fieldValue a_isMarked a_frameMethod a_frameAt a_frameHeight a_slots F I hm eL h5' (p' := D (p + 1)) (by omega) hFK (fun z => fo_su F hp hS su1 z) (bad _ su1) (nx _ su1) with ⟨wb, J2⟩ | ⟨hp', H', K', W', i1, i2, i3, i4, i5, i6, J2⟩
          · refine Or.inl ⟨wb, nI (wy_h (D p) h), FK, a_heightAt, a_kindsAt, a_isWaiting, I.1, ⟨fun i _ => rfl, fun i _ => rfl⟩, fun post J => ?_⟩
            unfold wX_flowOn_96
            refine t2 post (fl_Q post (nI m) (nI p) (nI (D p)) (nI b0) (nI (is_sz (D p)))) (fun z => absurd hx0 z) (fun _ => ?_)
            refine br_f n18 (br_f n10 (br_t (by rw [e11]; rfl) ?_))
            rw [eb]
            exact J2 _ (br_t rfl J)
          · rcases ar1 f_typeCount f_methodCount f_linked f_faultPlace f_active f_ticksLeft f_outcome f_latestResult a_typeAbove a_fieldSet a_methodType a_methodName a_codeLength a_bytes a_isStart H' K' W' FK a_globals a_objectType a_fieldValue a_isMarked a_frameMethod a_frameAt a_frameHeight a_slots F i1 hm eL h5' (p' := p + is_sz (D p)) (by omega) hFK (fun z => fo_su F hp hS su2 z) (bad _ su2) (nx _ su2) with ⟨wb, J3⟩ | ⟨hp2, H2, K2, W2, j1, j2, j3, j4, j5, j6, J3⟩
            · refine Or.inl ⟨wb, nI (wy_h (D p) h), FK, H', K', W', i1.1, i6, fun post J => ?_⟩
              unfold wX_flowOn_96
              refine t2 post (fl_Q post (nI m) (nI p) (nI (D p)) (nI b0) (nI (is_sz (D p)))) (fun z => absurd hx0 z) (fun _ => ?_)
              refine br_f n18 (br_f n10 (br_t (by rw [e11]; rfl) ?_))
              rw [eb]
              refine J2 _ (br_f (by decide) ?_)
              unfold wX_flowOn_166
              rw [nI_add]
              exact J3 _ ⟨rfl, J⟩
            · have m12 := XMon_t i2 j2
              have r12 : XRow m a_heightAt a_kindsAt a_isWaiting K2 W2 := by
                intro q hq e
                obtain ⟨a1, a2⟩ := j4 q hq e
                obtain ⟨b1, b2⟩ := i4 q hq a1
                refine ⟨b1, fun h hh eq s hs => ?_⟩
                rw [a2 h hh (i2 q hq h hh eq).1 s hs]
                exact b2 h hh eq s hs
              refine Or.inr ⟨nI (wy_h (D p) h), FK, H2, K2, W2, close _ _ _ j1 m12 r12 (fun p' hs => ?_), m12, XFr_t i6 j6, XGrow_t i2 j2 i5 j5, fun post J => ?_⟩
              · rcases hs with ⟨-, rfl⟩ | ⟨-, -, rfl⟩
                · obtain ⟨q1, q2⟩ := j2 _ (by omega) _ h5' i3.1
                  exact ⟨hp', q1, fun s hs c hc z => q2 s hs c hc (i3.2 s hs c hc z)⟩
                · exact ⟨hp2, j3.1, j3.2⟩
              · unfold wX_flowOn_96
                refine t2 post (fl_Q post (nI m) (nI p) (nI (D p)) (nI b0) (nI (is_sz (D p)))) (fun z => absurd hx0 z) (fun _ => ?_)
                refine br_f n18 (br_f n10 (br_t (by rw [e11]; rfl) ?_))
                rw [eb]
                refine J2 _ (br_f (by decide) ?_)
                unfold wX_flowOn_166
                rw [nI_add]
                exact J3 _ ⟨rfl, J⟩
        · have n11 : ¬ nI (D p) = 11 := by rw [gm_eqL (by omega) (by omega)]; exact e11
          rcases ar1 f_typeCount f_methodCount f_linked f_faultPlace f_active f_ticksLeft f_outcome f_latestResult a_typeAbove a_fieldSet a_methodType a_methodName a_codeLength a_bytes a_isStart a_heightAt a_kindsAt a_isWaiting FK a_globals a_objectType a_fieldValue a_isMarked a_frameMethod a_frameAt a_frameHeight a_slots F I hm eL h5' (p' := p + is_sz (D p)) (by omega) hFK (fun z => fo_su F hp hS su2 z) (bad _ su2) (nx _ su2) with ⟨wb, J2⟩ | ⟨hp', H', K', W', i1, i2, i3, i4, i5, i6, J2⟩
          · refine Or.inl ⟨wb, nI (wy_h (D p) h), FK, a_heightAt, a_kindsAt, a_isWaiting, I.1, ⟨fun i _ => rfl, fun i _ => rfl⟩, fun post J => ?_⟩
            unfold wX_flowOn_96
            refine t2 post (fl_Q post (nI m) (nI p) (nI (D p)) (nI b0) (nI (is_sz (D p)))) (fun z => absurd hx0 z) (fun _ => ?_)
            refine br_f n18 (br_f n10 (br_f n11 ?_))
            unfold wX_flowOn_166
            rw [nI_add]
            exact J2 _ ⟨rfl, J⟩
          · refine Or.inr ⟨nI (wy_h (D p) h), FK, H', K', W', close _ _ _ i1 i2 i4 (fun p' hs => ?_), i2, i6, i5, fun post J => ?_⟩
            · rcases hs with ⟨z | z, -⟩ | ⟨-, -, rfl⟩
              · exact absurd z e10
              · exact absurd z e11
              · exact ⟨hp', i3.1, i3.2⟩
            · unfold wX_flowOn_96
              refine t2 post (fl_Q post (nI m) (nI p) (nI (D p)) (nI b0) (nI (is_sz (D p)))) (fun z => absurd hx0 z) (fun _ => ?_)
              refine br_f n18 (br_f n10 (br_f n11 ?_))
              unfold wX_flowOn_166
              rw [nI_add]
              exact J2 _ ⟨rfl, J⟩
  · have hx0 : ¬ xk_ok (D p) b0 nm (kk m a_kindsAt p) h := fun z => hx (hok0.mp z)
    refine Or.inl ⟨xw_fail F hp hS hwp hx, fh, FK, a_heightAt, a_kindsAt, a_isWaiting, I.1, ⟨fun i _ => rfl, fun i _ => rfl⟩, fun post J => ?_⟩
    unfold wX_flowOn_96
    exact t2 post (fl_Q post (nI m) (nI p) (nI (D p)) (nI b0) (nI (is_sz (D p)))) (fun _ => J) (fun z => absurd z hx0)
end
section
/-! ===== counting ===== -/
noncomputable def cnP (P : Nat → Prop) : Nat → Nat
  | 0 => 0
  | n + 1 => cnP P n + @ite _ (P n) (Classical.propDecidable _) 1 0
theorem cnP_le (P : Nat → Prop) : ∀ n, cnP P n ≤ n
  | 0 => Nat.le_refl 0
  | n + 1 => by
    have := cnP_le P n
    unfold cnP
    split <;> omega
theorem cnP_mono {P Q : Nat → Prop} : ∀ n, (∀ i, i < n → P i → Q i) → cnP P n ≤ cnP Q n
  | 0, _ => Nat.le_refl 0
  | n + 1, h => by
    have h1 := cnP_mono n (fun i hi => h i (by omega))
    have h2 := h n (by omega)
    unfold cnP
    split
    · rename_i z
      rw [if_pos (h2 z)]
      omega
    · omega
theorem cnP_lt {P Q : Nat → Prop} : ∀ n, (∀ i, i < n → P i → Q i) → (∃ i, i < n ∧ Q i ∧ ¬ P i) → cnP P n < cnP Q n
  | 0, _, ⟨i, hi, _⟩ => absurd hi (by omega)
  | n + 1, h, ⟨i, hi, q, np⟩ => by
    have h1 := cnP_mono n (fun i hi => h i (by omega))
    unfold cnP
    by_cases e : i = n
    · subst e
      rw [if_neg np, if_pos q]
      omega
    · have h3 := cnP_lt n (fun i hi => h i (by omega)) ⟨i, by omega, q, np⟩
      have h2 := h n (by omega)
      split
      · rename_i z
        rw [if_pos (h2 z)]
        omega
      · omega
/-! ===== flowOn ===== -/
theorem fl_on (f_typeCount f_methodCount f_linked f_faultPlace f_flowHeight f_active f_ticksLeft f_outcome f_latestResult : Int32) (a_typeAbove a_fieldSet a_methodType a_methodName a_codeLength a_bytes a_isStart a_heightAt a_kindsAt a_isWaiting a_flowKinds a_globals a_objectType a_fieldValue a_isMarked a_frameMethod a_frameAt a_frameHeight a_slots : Nat → Int32) {m L nm tc p h : Nat} {D : Nat → Nat} {S : Nat → Prop} (F : fo_OK tc L D S) (I : XI m L nm D S 99 a_heightAt a_kindsAt a_isWaiting) (hm : m < 8) (eL : a_codeLength m = nI L) (hn : nm < 16) (eN : a_methodName m = nI nm) (hD : ∀ p, p < 33 → a_bytes (m * 32 + p) = nI (D p) ∧ D p < 256)
    (hp : p < L) (h5 : h ≤ 5) (eH : a_heightAt (m * 32 + p) = nI h) :
    (WBad D L nm ∧ ∃ (fh : Int32) (FK H' K' W' : Nat → Int32), (∀ i, ∃ a, a < 8 ∧ K' i = nI a) ∧ XFr m a_heightAt a_kindsAt H' K' ∧ ∀ post : Int32 → SX → Prop, post 0 (f_typeCount, f_methodCount, f_linked, f_faultPlace, fh, f_active, f_ticksLeft, f_outcome, f_latestResult, a_typeAbove, a_fieldSet, a_methodType, a_methodName, a_codeLength, a_bytes, a_isStart, H', K', W', FK, a_globals, a_objectType, a_fieldValue, a_isMarked, a_frameMethod, a_frameAt, a_frameHeight, a_slots) → wpX_flowOn post (f_typeCount, f_methodCount, f_linked, f_faultPlace, f_flowHeight, f_active, f_ticksLeft, f_outcome, f_latestResult, a_typeAbove, a_fieldSet, a_methodType, a_methodName, a_codeLength, a_bytes, a_isStart, a_heightAt, a_kindsAt, a_isWaiting, a_flowKinds, a_globals, a_objectType, a_fieldValue, a_isMarked, a_frameMethod, a_frameAt, a_frameHeight, a_slots) (nI m) (nI p)) ∨
    (∃ (fh : Int32) (FK H' K' W' : Nat → Int32), XI m L nm D S 99 H' K' W' ∧ XMon m a_heightAt a_kindsAt H' K' ∧ XFr m a_heightAt a_kindsAt H' K' ∧ XGrow m a_heightAt a_kindsAt (upd a_isWaiting (m * 32 + p) 0) H' K' W' ∧ ∀ post : Int32 → SX → Prop, post 1 (f_typeCount, f_methodCount, f_linked, f_faultPlace, fh, f_active, f_ticksLeft, f_outcome, f_latestResult, a_typeAbove, a_fieldSet, a_methodType, a_methodName, a_codeLength, a_bytes, a_isStart, H', K', W', FK, a_globals, a_objectType, a_fieldValue, a_isMarked, a_frameMethod, a_frameAt, a_frameHeight, a_slots) → wpX_flowOn post (f_typeCount, f_methodCount, f_linked, f_faultPlace, f_flowHeight, f_active, f_ticksLeft, f_outcome, f_latestResult, a_typeAbove, a_fieldSet, a_methodType, a_methodName, a_codeLength, a_bytes, a_isStart, a_heightAt, a_kindsAt, a_isWaiting, a_flowKinds, a_globals, a_objectType, a_fieldValue, a_isMarked, a_frameMethod, a_frameAt, a_frameHeight, a_slots) (nI m) (nI p)) := by
  have hL := F.2.1
  have I0 := XI_open (p := p) hL I
  obtain ⟨hS, -⟩ := I.2.2.1 p hp h h5 eH
  obtain ⟨f1, f2, f3, f4, f5⟩ := F.2.2.2 p hp hS
  obtain ⟨FK1, c1, c2⟩ := fo_copy f_typeCount f_methodCount f_linked f_faultPlace f_active f_ticksLeft f_outcome f_latestResult a_typeAbove a_fieldSet a_methodType a_methodName a_codeLength a_bytes a_isStart a_heightAt a_kindsAt (upd a_isWaiting (m * 32 + p) 0) a_globals a_objectType a_fieldValue a_isMarked a_frameMethod a_frameAt a_frameHeight a_slots (x1 := nI m) (x2 := nI p) (to := m * 32 + p) (by omega) h5 (4 + h) 0 (by omega) a_flowKinds (fun s z => absurd z (by omega))
  have hk : ∀ s, s < 4 + h → FK1 s = nI (kk m a_kindsAt p s) := fun s hs => by rw [c1 s hs]; exact (kk_8 I p s).2
  obtain ⟨eD, hD2⟩ := hD p (by omega)
  have walk : ∀ post : Int32 → SX → Prop, wX_flowOn_96 post (nI m) (nI p) (nI (D p)) (nI (is_sz (D p))) (nI (if is_sg (D p) = true then 0 else D (p + 1))) f_typeCount f_methodCount f_linked f_faultPlace (nI h) f_active f_ticksLeft f_outcome f_latestResult a_typeAbove a_fieldSet a_methodType a_methodName a_codeLength a_bytes a_isStart a_heightAt a_kindsAt (upd a_isWaiting (m * 32 + p) 0) FK1 a_globals a_objectType a_fieldValue a_isMarked a_frameMethod a_frameAt a_frameHeight a_slots → wpX_flowOn post (f_typeCount, f_methodCount, f_linked, f_faultPlace, f_flowHeight, f_active, f_ticksLeft, f_outcome, f_latestResult, a_typeAbove, a_fieldSet, a_methodType, a_methodName, a_codeLength, a_bytes, a_isStart, a_heightAt, a_kindsAt, a_isWaiting, a_flowKinds, a_globals, a_objectType, a_fieldValue, a_isMarked, a_frameMethod, a_frameAt, a_frameHeight, a_slots) (nI m) (nI p) := by
    intro post J
    unfold wpX_flowOn
    have e : (nI m * 32) + nI p = nI (m * 32 + p) := by simp (disch := omega) only [gm_ml, nI_add]
    refine nm_r e ⟨vp_in_nI (by omega) (by omega), nm_r (by rw [nI_clamp (by omega), gm_nb0]) ⟨vp_in_nI (by omega) (by omega), nm_r (by rw [nI_clamp (by omega), eH]) ⟨4 + h + 1, c2 post ?_⟩⟩⟩
    unfold wX_flowOn_27
    simp (disch := omega) only [nI_clamp, gm_clL, gm_in, gm_inL, gm_ml, gm_al, gm_la, gm_sl, nI_add, pk_mul, gm_eqL, gm_leL, gm_ltL, gm_Lle, gm_Llt, gm_eq, gm_le, gm_lt, gm_m1, forall_eq, true_and, Nat.not_lt_zero, Nat.add_sub_cancel, gm_z2, gm_z3, gm_z9, gm_z16, gm_z18, gm_z32, gm_z36, gm_z64, gm_z1152, not_true_eq_false, not_false_eq_true, false_implies, true_implies, and_true, implies_true, eD]
    refine ⟨fun _ => ev_sizeOf (by omega) ?_, fun z => absurd (Nat.le_refl _) z⟩
    cases z : is_sg (D p)
    · have e2 : is_sz (D p) = 2 := by unfold is_sz; rw [z]; rfl
      rw [e2] at J f2 ⊢
      rw [z] at J
      obtain ⟨eD1, hD3⟩ := hD (p + 1) (by omega)
      refine br_t rfl ⟨vp_in_nI (by omega) (by omega), ?_⟩
      rw [show m * 32 + (p + 1) = m * 32 + p + 1 by omega] at eD1
      rw [eD1]
      exact J
    · have e2 : is_sz (D p) = 1 := by unfold is_sz; rw [z]; rfl
      rw [e2] at J ⊢
      rw [z] at J
      exact br_f (by decide) J
  rcases fl_96 f_typeCount f_methodCount f_linked f_faultPlace f_active f_ticksLeft f_outcome f_latestResult a_typeAbove a_fieldSet a_methodType a_methodName a_codeLength a_bytes a_isStart a_heightAt a_kindsAt (upd a_isWaiting (m * 32 + p) 0) FK1 a_globals a_objectType a_fieldValue a_isMarked a_frameMethod a_frameAt a_frameHeight a_slots F I0 hm eL hn eN (fun p hp => (hD p hp).2) hp h5 eH pk_us rfl hk with ⟨wb, fh, FK, H', K', W', i1, i2, J⟩ | ⟨fh, FK, H', K', W', i1, i2, i3, i4, J⟩
  · exact Or.inl ⟨wb, fh, FK, H', K', W', i1, i2, fun post j => walk post (J post j)⟩
  · exact Or.inr ⟨fh, FK, H', K', W', i1, i2, i3, i4, fun post j => walk post (J post j)⟩
/-! ===== the rounds ===== -/
def xNW (m at' : Nat) (W : Nat → Int32) : Prop := ∀ q, q < at' → W (m * 32 + q) = 0
theorem fl_24 (f_typeCount f_methodCount f_linked f_faultPlace f_active f_ticksLeft f_outcome f_latestResult : Int32) (a_typeAbove a_fieldSet a_methodType a_methodName a_codeLength a_bytes a_isStart a_globals a_objectType a_fieldValue a_isMarked a_frameMethod a_frameAt a_frameHeight a_slots : Nat → Int32) {m L nm tc c0 : Nat} {D : Nat → Nat} {S : Nat → Prop} {Z : Prop} (F : fo_OK tc L D S) (hm : m < 8) (eL : a_codeLength m = nI L) (hn : nm < 16) (eN : a_methodName m = nI nm) (hD : ∀ p, p < 33 → a_bytes (m * 32 + p) = nI (D p) ∧ D p < 256) :
    ∀ d a, a + d = L → ∀ (x2 fh : Int32) (FK H K W : Nat → Int32), XI m L nm D S 99 H K W → c0 ≤ cnP (PB m H K) 864 → (c0 < cnP (PB m H K) 864 ∨ xNW m a W) → (x2 = 0 ∨ x2 = 1) → (x2 = 0 → xNW m a W) → (Z → x2 = 0 ∧ xNW m L W) →
    (WBad D L nm ∧ ∃ (fh' : Int32) (FK' H' K' W' : Nat → Int32), (∀ i, ∃ a, a < 8 ∧ K' i = nI a) ∧ XFr m H K H' K' ∧ ∀ (post : Int32 → SX → Prop) J9 x3, post 0 (f_typeCount, f_methodCount, f_linked, f_faultPlace, fh', f_active, f_ticksLeft, f_outcome, f_latestResult, a_typeAbove, a_fieldSet, a_methodType, a_methodName, a_codeLength, a_bytes, a_isStart, H', K', W', FK', a_globals, a_objectType, a_fieldValue, a_isMarked, a_frameMethod, a_frameAt, a_frameHeight, a_slots) → wX_flowHolds_24 post J9 (nI m) x3 (d + 1) x2 (nI a) f_typeCount f_methodCount f_linked f_faultPlace fh f_active f_ticksLeft f_outcome f_latestResult a_typeAbove a_fieldSet a_methodType a_methodName a_codeLength a_bytes a_isStart H K W FK a_globals a_objectType a_fieldValue a_isMarked a_frameMethod a_frameAt a_frameHeight a_slots) ∨
    (∃ (x2' fh' : Int32) (FK' H' K' W' : Nat → Int32), XI m L nm D S 99 H' K' W' ∧ XMon m H K H' K' ∧ XFr m H K H' K' ∧ c0 ≤ cnP (PB m H' K') 864 ∧ (c0 < cnP (PB m H' K') 864 ∨ xNW m L W') ∧ (x2' = 0 ∨ x2' = 1) ∧ (x2' = 0 → xNW m L W') ∧ (Z → x2' = 0) ∧ ∀ (post : Int32 → SX → Prop) J9 (x3 : Int32), J9 x2' (x3 + 1) f_typeCount f_methodCount f_linked f_faultPlace fh' f_active f_ticksLeft f_outcome f_latestResult a_typeAbove a_fieldSet a_methodType a_methodName a_codeLength a_bytes a_isStart H' K' W' FK' a_globals a_objectType a_fieldValue a_isMarked a_frameMethod a_frameAt a_frameHeight a_slots → wX_flowHolds_24 post J9 (nI m) x3 (d + 1) x2 (nI a) f_typeCount f_methodCount f_linked f_faultPlace fh f_active f_ticksLeft f_outcome f_latestResult a_typeAbove a_fieldSet a_methodType a_methodName a_codeLength a_bytes a_isStart H K W FK a_globals a_objectType a_fieldValue a_isMarked a_frameMethod a_frameAt a_frameHeight a_slots) := by
  have hL := F.2.1
  intro d
  induction d with
  | zero =>
    intro a ha x2 fh FK H K W I h0 h1 hx2 h2 h3
    cases (show a = L by omega)
    refine Or.inr ⟨x2, fh, FK, H, K, W, I, fun q hq h hh e => ⟨e, fun s hs c hc z => z⟩, ⟨fun i _ => rfl, fun i _ => rfl⟩, h0, h1, hx2, h2, fun z => (h3 z).1, fun post J9 x3 J => ?_⟩
    unfold wX_flowHolds_24
    simp (disch := omega) only [nI_clamp, gm_clL, gm_in, gm_inL, gm_ml, gm_al, gm_la, gm_sl, nI_add, pk_mul, gm_eqL, gm_leL, gm_ltL, gm_Lle, gm_Llt, gm_eq, gm_le, gm_lt, gm_m1, forall_eq, true_and, Nat.not_lt_zero, Nat.add_sub_cancel, gm_z2, gm_z3, gm_z9, gm_z16, gm_z18, gm_z32, gm_z36, gm_z64, gm_z1152, not_true_eq_false, not_false_eq_true, false_implies, true_implies, and_true, implies_true, eL]
    exact ⟨fun _ => J, fun z => absurd (Nat.le_refl _) z⟩
  | succ d ih =>
    intro a ha x2 fh FK H K W I h0 h1 hx2 h2 h3
    by_cases hw : W (m * 32 + a) = 0
    · have nw : xNW m a W → xNW m (a + 1) W := fun z q hq => by
        by_cases e : q = a
        · subst e; exact hw
        · exact z q (by omega)
      have walk : ∀ (post : Int32 → SX → Prop) J9 x3, wX_flowHolds_24 post J9 (nI m) x3 (d + 1) x2 (nI (a + 1)) f_typeCount f_methodCount f_linked f_faultPlace fh f_active f_ticksLeft f_outcome f_latestResult a_typeAbove a_fieldSet a_methodType a_methodName a_codeLength a_bytes a_isStart H K W FK a_globals a_objectType a_fieldValue a_isMarked a_frameMethod a_frameAt a_frameHeight a_slots → wX_flowHolds_24 post J9 (nI m) x3 (d + 1 + 1) x2 (nI a) f_typeCount f_methodCount f_linked f_faultPlace fh f_active f_ticksLeft f_outcome f_latestResult a_typeAbove a_fieldSet a_methodType a_methodName a_codeLength a_bytes a_isStart H K W FK a_globals a_objectType a_fieldValue a_isMarked a_frameMethod a_frameAt a_frameHeight a_slots := by
        intro post J9 x3 J
        unfold wX_flowHolds_24
        simp (disch := omega) only [nI_clamp, gm_clL, gm_in, gm_inL, gm_ml, gm_al, gm_la, gm_sl, nI_add, pk_mul, gm_eqL, gm_leL, gm_ltL, gm_Lle, gm_Llt, gm_eq, gm_le, gm_lt, gm_m1, forall_eq, true_and, Nat.not_lt_zero, Nat.add_sub_cancel, gm_z2, gm_z3, gm_z9, gm_z16, gm_z18, gm_z32, gm_z36, gm_z64, gm_z1152, not_true_eq_false, not_false_eq_true, false_implies, true_implies, and_true, implies_true, eL, hw]
        exact ⟨fun z => absurd z (by omega), fun _ => J⟩
      rcases ih (a + 1) (by omega) x2 fh FK H K W I h0 (h1.imp id nw) hx2 (fun z => nw (h2 z)) h3 with ⟨wb, fh', FK', H', K', W', i1, i2, J⟩ | ⟨x2', fh', FK', H', K', W', i1, i2, i3, i4, i5, i6, i7, i8, J⟩
      · exact Or.inl ⟨wb, fh', FK', H', K', W', i1, i2, fun post J9 x3 j => walk post J9 x3 (J post J9 x3 j)⟩
      · exact Or.inr ⟨x2', fh', FK', H', K', W', i1, i2, i3, i4, i5, i6, i7, i8, fun post J9 x3 j => walk post J9 x3 (J post J9 x3 j)⟩
    · have nZ : ¬ Z := fun z => hw ((h3 z).2 a (by omega))
      rcases I.2.1 a (by omega) with ⟨-, e1⟩ | ⟨h, h5, e1⟩
      · exact absurd e1 hw
      · rcases fl_on f_typeCount f_methodCount f_linked f_faultPlace fh f_active f_ticksLeft f_outcome f_latestResult a_typeAbove a_fieldSet a_methodType a_methodName a_codeLength a_bytes a_isStart H K W FK a_globals a_objectType a_fieldValue a_isMarked a_frameMethod a_frameAt a_frameHeight a_slots F I hm eL hn eN hD (show a < L by omega) h5 e1 with ⟨wb, fh', FK', H', K', W', i1, i2, J⟩ | ⟨fh', FK', H', K', W', i1, i2, i3, i4, J⟩
        · refine Or.inl ⟨wb, fh', FK', H', K', W', i1, i2, fun post J9 x3 j => ?_⟩
          unfold wX_flowHolds_24
          simp (disch := omega) only [nI_clamp, gm_clL, gm_in, gm_inL, gm_ml, gm_al, gm_la, gm_sl, nI_add, pk_mul, gm_eqL, gm_leL, gm_ltL, gm_Lle, gm_Llt, gm_eq, gm_le, gm_lt, gm_m1, forall_eq, true_and, Nat.not_lt_zero, Nat.add_sub_cancel, gm_z2, gm_z3, gm_z9, gm_z16, gm_z18, gm_z32, gm_z36, gm_z64, gm_z1152, not_true_eq_false, not_false_eq_true, false_implies, true_implies, and_true, implies_true, eL]
          exact ⟨fun z => absurd z (by omega), fun _ => br_f hw (J _ (br_t rfl j))⟩
        · have walk : ∀ (post : Int32 → SX → Prop) J9 x3, wX_flowHolds_24 post J9 (nI m) x3 (d + 1) 1 (nI (a + 1)) f_typeCount f_methodCount f_linked f_faultPlace fh' f_active f_ticksLeft f_outcome f_latestResult a_typeAbove a_fieldSet a_methodType a_methodName a_codeLength a_bytes a_isStart H' K' W' FK' a_globals a_objectType a_fieldValue a_isMarked a_frameMethod a_frameAt a_frameHeight a_slots → wX_flowHolds_24 post J9 (nI m) x3 (d + 1 + 1) x2 (nI a) f_typeCount f_methodCount f_linked f_faultPlace fh f_active f_ticksLeft f_outcome f_latestResult a_typeAbove a_fieldSet a_methodType a_methodName a_codeLength a_bytes a_isStart H K W FK a_globals a_objectType a_fieldValue a_isMarked a_frameMethod a_frameAt a_frameHeight a_slots := by
            intro post J9 x3 j
            unfold wX_flowHolds_24
            simp (disch := omega) only [nI_clamp, gm_clL, gm_in, gm_inL, gm_ml, gm_al, gm_la, gm_sl, nI_add, pk_mul, gm_eqL, gm_leL, gm_ltL, gm_Lle, gm_Llt, gm_eq, gm_le, gm_lt, gm_m1, forall_eq, true_and, Nat.not_lt_zero, Nat.add_sub_cancel, gm_z2, gm_z3, gm_z9, gm_z16, gm_z18, gm_z32, gm_z36, gm_z64, gm_z1152, not_true_eq_false, not_false_eq_true, false_implies, true_implies, and_true, implies_true, eL]
            exact ⟨fun z => absurd z (by omega), fun _ => br_f hw (J _ (br_f (by decide) j))⟩
          have cm : cnP (PB m H K) 864 ≤ cnP (PB m H' K') 864 := cnP_mono 864 (fun i hi => PB_mon i2 hi)
          have c1 : c0 < cnP (PB m H' K') 864 ∨ xNW m (a + 1) W' := by
            rcases i4 with ⟨j, hj, p1, p2⟩ | i4
            · have : cnP (PB m H K) 864 < cnP (PB m H' K') 864 := cnP_lt 864 (fun i hi => PB_mon i2 hi) ⟨j, hj, p1, p2⟩
              exact Or.inl (by omega)
            · rcases h1 with h1 | h1
              · exact Or.inl (by omega)
              · right
                intro q hq
                rw [i4 q (by omega)]
                by_cases e : q = a
                · subst e; exact pk_us
                · rw [pk_un (by omega)]; exact h1 q (by omega)
          rcases ih (a + 1) (by omega) 1 fh' FK' H' K' W' i1 (by omega) c1 (Or.inr rfl) (fun z => absurd z (by decide)) (fun z => absurd z nZ) with ⟨wb, fh2, FK2, H2, K2, W2, j1, j2, J2⟩ | ⟨x2', fh2, FK2, H2, K2, W2, j1, j2, j3, j4, j5, j6, j7, j8, J2⟩
          · exact Or.inl ⟨wb, fh2, FK2, H2, K2, W2, j1, XFr_t i3 j2, fun post J9 x3 j => walk post J9 x3 (J2 post J9 x3 j)⟩
          · exact Or.inr ⟨x2', fh2, FK2, H2, K2, W2, j1, XMon_t i2 j2, XFr_t i3 j3, j4, j5, j6, j7, j8, fun post J9 x3 j => walk post J9 x3 (J2 post J9 x3 j)⟩
theorem fl_9 (f_typeCount f_methodCount f_linked f_faultPlace f_active f_ticksLeft f_outcome f_latestResult : Int32) (a_typeAbove a_fieldSet a_methodType a_methodName a_codeLength a_bytes a_isStart a_globals a_objectType a_fieldValue a_isMarked a_frameMethod a_frameAt a_frameHeight a_slots : Nat → Int32) {m L nm tc : Nat} {D : Nat → Nat} {S : Nat → Prop} (F : fo_OK tc L D S) (hm : m < 8) (eL : a_codeLength m = nI L) (hn : nm < 16) (eN : a_methodName m = nI nm) (hD : ∀ p, p < 33 → a_bytes (m * 32 + p) = nI (D p) ∧ D p < 256) :
    ∀ d r, r + d = 870 → ∀ (x2 fh : Int32) (FK H K W : Nat → Int32), XI m L nm D S 99 H K W → (x2 = 0 ∨ x2 = 1) → (x2 = 0 → xNW m L W) → (x2 = 1 → r ≤ cnP (PB m H K) 864 ∨ (xNW m L W ∧ r ≤ cnP (PB m H K) 864 + 1)) →
    (WBad D L nm ∧ ∃ (fh' : Int32) (FK' H' K' W' : Nat → Int32), (∀ i, ∃ a, a < 8 ∧ K' i = nI a) ∧ XFr m H K H' K' ∧ ∀ (post : Int32 → SX → Prop), post 0 (f_typeCount, f_methodCount, f_linked, f_faultPlace, fh', f_active, f_ticksLeft, f_outcome, f_latestResult, a_typeAbove, a_fieldSet, a_methodType, a_methodName, a_codeLength, a_bytes, a_isStart, H', K', W', FK', a_globals, a_objectType, a_fieldValue, a_isMarked, a_frameMethod, a_frameAt, a_frameHeight, a_slots) → ∃ n, wX_flowHolds_9 post (nI m) n x2 (nI r) f_typeCount f_methodCount f_linked f_faultPlace fh f_active f_ticksLeft f_outcome f_latestResult a_typeAbove a_fieldSet a_methodType a_methodName a_codeLength a_bytes a_isStart H K W FK a_globals a_objectType a_fieldValue a_isMarked a_frameMethod a_frameAt a_frameHeight a_slots) ∨
    (∃ (fh' : Int32) (FK' H' K' W' : Nat → Int32), XI m L nm D S 99 H' K' W' ∧ XMon m H K H' K' ∧ XFr m H K H' K' ∧ xNW m L W' ∧ ∀ (post : Int32 → SX → Prop), post 1 (f_typeCount, f_methodCount, f_linked, f_faultPlace, fh', f_active, f_ticksLeft, f_outcome, f_latestResult, a_typeAbove, a_fieldSet, a_methodType, a_methodName, a_codeLength, a_bytes, a_isStart, H', K', W', FK', a_globals, a_objectType, a_fieldValue, a_isMarked, a_frameMethod, a_frameAt, a_frameHeight, a_slots) → ∃ n, wX_flowHolds_9 post (nI m) n x2 (nI r) f_typeCount f_methodCount f_linked f_faultPlace fh f_active f_ticksLeft f_outcome f_latestResult a_typeAbove a_fieldSet a_methodType a_methodName a_codeLength a_bytes a_isStart H K W FK a_globals a_objectType a_fieldValue a_isMarked a_frameMethod a_frameAt a_frameHeight a_slots) := by
  intro d
  induction d with
  | zero =>
    intro r hr x2 fh FK H K W I hx h0 h1
    have hc := cnP_le (PB m H K) 864
    have e0 : x2 = 0 := by
      rcases hx with z | z
      · exact z
      · rcases h1 z with z2 | ⟨-, z2⟩ <;> omega
    refine Or.inr ⟨fh, FK, H, K, W, I, fun q hq h hh e => ⟨e, fun s hs c hc z => z⟩, ⟨fun i _ => rfl, fun i _ => rfl⟩, h0 e0, fun post J => ⟨1, ?_⟩⟩
    unfold wX_flowHolds_9
    exact br_f (nI_ge (b := 1000000) (by omega) (by decide)) (br_t e0 J)
  | succ d ih =>
    intro r hr x2 fh FK H K W I hx h0 h1
    have hc := cnP_le (PB m H K) 864
    rcases hx with e0 | e1
    · refine Or.inr ⟨fh, FK, H, K, W, I, fun q hq h hh e => ⟨e, fun s hs c hc z => z⟩, ⟨fun i _ => rfl, fun i _ => rfl⟩, h0 e0, fun post J => ⟨1, ?_⟩⟩
      unfold wX_flowHolds_9
      exact br_f (nI_ge (b := 1000000) (by omega) (by decide)) (br_t e0 J)
    · have hr2 := h1 e1
      rcases fl_24 f_typeCount f_methodCount f_linked f_faultPlace f_active f_ticksLeft f_outcome f_latestResult a_typeAbove a_fieldSet a_methodType a_methodName a_codeLength a_bytes a_isStart a_globals a_objectType a_fieldValue a_isMarked a_frameMethod a_frameAt a_frameHeight a_slots (c0 := cnP (PB m H K) 864) (Z := xNW m L W) F hm eL hn eN hD L 0 (by omega) 0 fh FK H K W I (Nat.le_refl _) (Or.inr (fun q z => absurd z (by omega))) (Or.inl rfl) (fun _ q z => absurd z (by omega)) (fun z => ⟨rfl, z⟩) with ⟨wb, fh', FK', H', K', W', i1, i2, J⟩ | ⟨x2', fh', FK', H', K', W', i1, i2, i3, i4, i5, i6, i7, i8, J⟩
      · refine Or.inl ⟨wb, fh', FK', H', K', W', i1, i2, fun post j => ⟨1, ?_⟩⟩
        unfold wX_flowHolds_9
        refine br_f (nI_ge (b := 1000000) (by omega) (by decide)) (br_f (by rw [e1]; decide) ⟨L + 1, J post _ _ j⟩)
      · have walk : ∀ (post : Int32 → SX → Prop) n, wX_flowHolds_9 post (nI m) n x2' (nI (r + 1)) f_typeCount f_methodCount f_linked f_faultPlace fh' f_active f_ticksLeft f_outcome f_latestResult a_typeAbove a_fieldSet a_methodType a_methodName a_codeLength a_bytes a_isStart H' K' W' FK' a_globals a_objectType a_fieldValue a_isMarked a_frameMethod a_frameAt a_frameHeight a_slots → wX_flowHolds_9 post (nI m) (n + 1) x2 (nI r) f_typeCount f_methodCount f_linked f_faultPlace fh f_active f_ticksLeft f_outcome f_latestResult a_typeAbove a_fieldSet a_methodType a_methodName a_codeLength a_bytes a_isStart H K W FK a_globals a_objectType a_fieldValue a_isMarked a_frameMethod a_frameAt a_frameHeight a_slots := by
          intro post n j
          unfold wX_flowHolds_9
          refine br_f (nI_ge (b := 1000000) (by omega) (by decide)) (br_f (by rw [e1]; decide) ⟨L + 1, J post _ _ ?_⟩)
          rw [nI_1]
          exact j
        have nx : x2' = 1 → r + 1 ≤ cnP (PB m H' K') 864 ∨ (xNW m L W' ∧ r + 1 ≤ cnP (PB m H' K') 864 + 1) := by
          intro z
          rcases hr2 with hr2 | ⟨z2, -⟩
          · rcases i5 with i5 | i5
            · exact Or.inl (by omega)
            · exact Or.inr ⟨i5, by omega⟩
          · rw [i8 z2] at z
            exact absurd z (by decide)
        rcases ih (r + 1) (by omega) x2' fh' FK' H' K' W' i1 i6 i7 nx with ⟨wb, fh2, FK2, H2, K2, W2, j1, j2, J2⟩ | ⟨fh2, FK2, H2, K2, W2, j1, j2, j3, j4, J2⟩
        · exact Or.inl ⟨wb, fh2, FK2, H2, K2, W2, j1, XFr_t i3 j2, fun post j => by obtain ⟨n, hn⟩ := J2 post j; exact ⟨n + 1, walk post n hn⟩⟩
        · exact Or.inr ⟨fh2, FK2, H2, K2, W2, j1, XMon_t i2 j2, XFr_t i3 j3, j4, fun post j => by obtain ⟨n, hn⟩ := J2 post j; exact ⟨n + 1, walk post n hn⟩⟩
/-! ===== the start ===== -/
theorem st_2 (f_typeCount f_methodCount f_linked f_faultPlace f_active f_ticksLeft f_outcome f_latestResult : Int32) (a_typeAbove a_fieldSet a_methodType a_methodName a_codeLength a_bytes a_isStart a_kindsAt a_flowKinds a_globals a_objectType a_fieldValue a_isMarked a_frameMethod a_frameAt a_frameHeight a_slots : Nat → Int32) {m : Nat} {fh : Int32} (hm : m < 8) : ∀ d j, j + d = 32 → ∀ H W : Nat → Int32, (∀ q, q < j → H (m * 32 + q) = -1 ∧ W (m * 32 + q) = 0) → ∃ H' W' : Nat → Int32, (∀ q, q < 32 → H' (m * 32 + q) = -1 ∧ W' (m * 32 + q) = 0) ∧ (∀ i, (i < m * 32 ∨ m * 32 + 32 ≤ i) → H' i = H i) ∧ ∀ post, wX_startFlow_2 post (nI m) f_typeCount f_methodCount f_linked f_faultPlace fh f_active f_ticksLeft f_outcome f_latestResult 1 (nI 32) a_typeAbove a_fieldSet a_methodType a_methodName a_codeLength a_bytes a_isStart H' a_kindsAt W' a_flowKinds a_globals a_objectType a_fieldValue a_isMarked a_frameMethod a_frameAt a_frameHeight a_slots → wX_startFlow_2 post (nI m) f_typeCount f_methodCount f_linked f_faultPlace fh f_active f_ticksLeft f_outcome f_latestResult (d + 1) (nI j) a_typeAbove a_fieldSet a_methodType a_methodName a_codeLength a_bytes a_isStart H a_kindsAt W a_flowKinds a_globals a_objectType a_fieldValue a_isMarked a_frameMethod a_frameAt a_frameHeight a_slots := by
  intro d
  induction d with
  | zero =>
    intro j hj H W h
    cases (show j = 32 by omega)
    exact ⟨H, W, h, fun i _ => rfl, fun post J => J⟩
  | succ d ih =>
    intro j hj H W h
    obtain ⟨H', W', c1, c2, c3⟩ := ih (j + 1) (by omega) (upd H (m * 32 + j) (-1)) (upd W (m * 32 + j) 0) (fun q hq => by
      by_cases e : q = j
      · subst e; exact ⟨pk_us, pk_us⟩
      · rw [pk_un (by omega), pk_un (by omega)]; exact h q (by omega))
    refine ⟨H', W', c1, fun i hi => by rw [c2 i hi, pk_un (by omega)], fun post J => ?_⟩
    have := c3 post J
    unfold wX_startFlow_2
    simp (disch := omega) only [nI_clamp, gm_clL, gm_in, gm_inL, gm_ml, gm_al, gm_la, gm_sl, nI_add, pk_mul, gm_eqL, gm_leL, gm_ltL, gm_Lle, gm_Llt, gm_eq, gm_le, gm_lt, gm_m1, forall_eq, true_and, Nat.not_lt_zero, Nat.add_sub_cancel, gm_z2, gm_z3, gm_z9, gm_z16, gm_z18, gm_z32, gm_z36, gm_z64, gm_z1152, not_true_eq_false, not_false_eq_true, false_implies, true_implies, and_true, implies_true, gm_nb0]
    exact ⟨fun z => absurd z (by omega), fun _ => this⟩
/-- the kinds at the start -/
def i_k (nm s : Nat) : Nat := if s = 0 then 4 else if s = 1 then is_ak nm else 1
theorem i_kC {nm s c : Nat} (hs : s < 4) (hc : c < 3) (h : kd_in c (i_k nm s)) : c = wy_c (wy_i nm) s := by
  obtain ⟨-, -, w0, w1, w2, w3⟩ := wy_iD (nm := nm)
  have k1 : ∀ c, c < 3 → kd_in c 1 → c = 2 := by unfold kd_in; decide
  rcases (by omega : s = 0 ∨ s = 1 ∨ s = 2 ∨ s = 3) with rfl | rfl | rfl | rfl
  · rw [w0]; exact kd_4 c hc h
  · rw [w1]
    have h' : kd_in c (is_ak nm) := h
    unfold is_ak at h'
    split at h'
    · rename_i z; rw [if_pos z]; exact kd_2 c hc h'
    · rename_i z; rw [if_neg z]; exact kd_4 c hc h'
  · rw [w2]; exact k1 c hc h
  · rw [w3]; exact k1 c hc h
theorem i_kI (nm : Nat) {s : Nat} (hs : s < 4) : kd_in (wy_c (wy_i nm) s) (i_k nm s) ∧ 0 < i_k nm s ∧ i_k nm s < 8 := by
  obtain ⟨-, -, w0, w1, w2, w3⟩ := wy_iD (nm := nm)
  have ha : 0 < is_ak nm ∧ is_ak nm < 8 := by unfold is_ak; split <;> omega
  have k1 : kd_in 2 1 := by unfold kd_in; decide
  rcases (by omega : s = 0 ∨ s = 1 ∨ s = 2 ∨ s = 3) with rfl | rfl | rfl | rfl
  · rw [w0]; exact ⟨kd_i4, (by decide : 0 < 4), (by decide : 4 < 8)⟩
  · rw [w1]
    refine ⟨?_, ha.1, ha.2⟩
    show kd_in _ (is_ak nm)
    unfold is_ak
    split
    · exact kd_i2
    · exact kd_i4
  · rw [w2]; exact ⟨k1, (by decide : 0 < 1), (by decide : 1 < 8)⟩
  · rw [w3]; exact ⟨k1, (by decide : 0 < 1), (by decide : 1 < 8)⟩
theorem fl_start (f_typeCount f_methodCount f_linked f_faultPlace f_flowHeight f_active f_ticksLeft f_outcome f_latestResult : Int32) (a_typeAbove a_fieldSet a_methodType a_methodName a_codeLength a_bytes a_isStart a_heightAt a_kindsAt a_isWaiting a_flowKinds a_globals a_objectType a_fieldValue a_isMarked a_frameMethod a_frameAt a_frameHeight a_slots : Nat → Int32) {m L nm tc : Nat} {D : Nat → Nat} {S : Nat → Prop} (F : fo_OK tc L D S) (hm : m < 8) (eL : a_codeLength m = nI L) (hn : nm < 16) (eN : a_methodName m = nI nm) (KB : ∀ i, ∃ a, a < 8 ∧ a_kindsAt i = nI a) :
    ∃ (fh : Int32) (FK H' K' W' : Nat → Int32), XI m L nm D S 99 H' K' W' ∧ XFr m a_heightAt a_kindsAt H' K' ∧ H' (m * 32) = nI 0 ∧ (∀ s, s < 4 → kd_in (wy_c (wy_i nm) s) (kk m K' 0 s)) ∧ ∀ post : SX → Prop, post (f_typeCount, f_methodCount, f_linked, f_faultPlace, fh, f_active, f_ticksLeft, f_outcome, f_latestResult, a_typeAbove, a_fieldSet, a_methodType, a_methodName, a_codeLength, a_bytes, a_isStart, H', K', W', FK, a_globals, a_objectType, a_fieldValue, a_isMarked, a_frameMethod, a_frameAt, a_frameHeight, a_slots) → wpX_startFlow post (f_typeCount, f_methodCount, f_linked, f_faultPlace, f_flowHeight, f_active, f_ticksLeft, f_outcome, f_latestResult, a_typeAbove, a_fieldSet, a_methodType, a_methodName, a_codeLength, a_bytes, a_isStart, a_heightAt, a_kindsAt, a_isWaiting, a_flowKinds, a_globals, a_objectType, a_fieldValue, a_isMarked, a_frameMethod, a_frameAt, a_frameHeight, a_slots) (nI m) := by
  obtain ⟨H1, W1, c1, c2, c3⟩ := st_2 f_typeCount f_methodCount f_linked f_faultPlace f_active f_ticksLeft f_outcome f_latestResult a_typeAbove a_fieldSet a_methodType a_methodName a_codeLength a_bytes a_isStart a_kindsAt a_flowKinds a_globals a_objectType a_fieldValue a_isMarked a_frameMethod a_frameAt a_frameHeight a_slots (fh := f_flowHeight) hm 32 0 rfl a_heightAt a_isWaiting (fun q z => absurd z (by omega))
  have hL := F.2.1
  have nr : ∀ p, p < 32 → ∀ h, h ≤ 5 → ¬ H1 (m * 32 + p) = nI h := fun p hp h hh e => by
    rw [(c1 p hp).1] at e
    exact gp_m1n (by omega) e.symm
  have I0 : XI m L nm D S 99 H1 a_kindsAt W1 := ⟨KB, fun p hp => Or.inl (c1 p hp), fun p hp h hh e => absurd e (nr p (by omega) h hh), fun _ p hp h hh e => absurd e (nr p (by omega) h hh), fun p hp h hh e => absurd e (nr p (by omega) h hh)⟩
  have hFK : ∀ s, s < 4 + 0 → upd (upd (upd (upd a_flowKinds 0 4) 1 (nI (is_ak nm))) 2 1) 3 1 s = nI (i_k nm s) ∧ 0 < i_k nm s ∧ i_k nm s < 8 := by
    intro s hs
    refine ⟨?_, (i_kI nm (by omega)).2⟩
    rcases (by omega : s = 0 ∨ s = 1 ∨ s = 2 ∨ s = 3) with rfl | rfl | rfl | rfl <;> rfl
  have hw : xw D L nm 0 0 (i_k nm) := ⟨⟨_, way_i D L nm, wy_iD.1⟩, fun s hs c hc hk => ⟨_, way_i D L nm, wy_iD.1, (i_kC (by omega) hc hk).symm⟩⟩
  obtain ⟨-, -, w3⟩ := ar_x f_typeCount f_methodCount f_linked f_faultPlace f_active f_ticksLeft f_outcome f_latestResult a_typeAbove a_fieldSet a_methodType a_methodName a_codeLength a_bytes a_isStart H1 a_kindsAt W1 (upd (upd (upd (upd a_flowKinds 0 4) 1 (nI (is_ak nm))) 2 1) 3 1) a_globals a_objectType a_fieldValue a_isMarked a_frameMethod a_frameAt a_frameHeight a_slots (p' := 0) (h' := 0) (f := i_k nm) hm hL eL (by omega) (by omega) hFK KB
  obtain ⟨H', K', W', A, J⟩ := w3 F.1 (Or.inl (c1 0 (by omega)).1)
  obtain ⟨x1, x2, x3, x4, x5, x6⟩ := ar_XI F I0 A F.1 (by omega) F.2.2.1 (fun s hs => (hFK s hs).2) (fun _ => hw)
  refine ⟨nI 0, upd (upd (upd (upd a_flowKinds 0 4) 1 (nI (is_ak nm))) 2 1) 3 1, H', K', W', x1, ⟨fun i hi => (x6.1 i hi).trans (c2 i hi), x6.2⟩, x3.1, fun s hs => x3.2 s (by omega) _ (wy_cB _ _) (i_kI nm hs).1, fun post j => ⟨33, c3 post ?_⟩⟩
  unfold wX_startFlow_2
  refine br_t (by decide) (nm_e ⟨vp_in_nI hm (by omega), ?_⟩)
  rw [nI_clamp (by omega), eN]
  exact ev_ak (by omega) (nm_e (nm_e (nm_e (J _ j))))
/-! ===== the end ===== -/
theorem xf_in {m L nm tc : Nat} {D : Nat → Nat} {S : Nat → Prop} {H K W : Nat → Int32} (F : fo_OK tc L D S) (I : XI m L nm D S 99 H K W) (nw : xNW m L W) (e0 : H (m * 32) = nI 0) (k0 : ∀ s, s < 4 → kd_in (wy_c (wy_i nm) s) (kk m K 0 s)) {st h : Nat} (w : Way D L nm st h) : H (m * 32 + wy_p st) = nI h ∧ ∀ s, s < 4 + h → kd_in (wy_c st s) (kk m K (wy_p st) s) := by
  have key : WV L S st h ∧ H (m * 32 + wy_p st) = nI h ∧ ∀ s, s < 4 + h → kd_in (wy_c st s) (kk m K (wy_p st) s) := by
    refine w (fun st h => WV L S st h ∧ H (m * 32 + wy_p st) = nI h ∧ ∀ s, s < 4 + h → kd_in (wy_c st s) (kk m K (wy_p st) s)) ⟨way_v F (way_i D L nm), ?_, ?_⟩ (fun st h p' v hok hs hp' => ?_)
    · rw [wy_iD.1]; exact e0
    · rw [wy_iD.1]; exact fun s hs => k0 s (by omega)
    · obtain ⟨⟨v1, v2, v3, v4⟩, e, hk⟩ := v
      have hb := (fo_b4 F v1 v2).1
      obtain ⟨c1, c2⟩ := I.2.2.2.2 _ v1 h v3 e (nw _ v1) (by have := F.2.1; omega)
      obtain ⟨d1, d2, d3⟩ := c2 p' hs
      obtain ⟨n1, n2, -⟩ := wy_nxD (p' := p') hb hok v3
      obtain ⟨b1, b2⟩ := wy_nrB hb hok v3
      obtain ⟨-, a2⟩ := xk_A (p' := p') (F.2.2.2 _ v1 v2).1 hb v3 hk c1
      refine ⟨⟨by rw [n1]; exact hp', by rw [n1]; exact fo_su F v1 v2 hs hp', b2, by rw [n2]; exact b1⟩, by rw [n1]; exact d2, fun s hs => ?_⟩
      rw [n1]
      exact d3 s hs _ (wy_cB _ _) (a2 s hs)
  exact key.2
theorem xf_end {m L nm tc : Nat} {D : Nat → Nat} {S : Nat → Prop} {H K W : Nat → Int32} (F : fo_OK tc L D S) (I : XI m L nm D S 99 H K W) (nw : xNW m L W) (e0 : H (m * 32) = nI 0) (k0 : ∀ s, s < 4 → kd_in (wy_c (wy_i nm) s) (kk m K 0 s)) : ¬ WBad D L nm := by
  rintro ⟨st, h, w, z⟩
  obtain ⟨v1, v2, v3, v4⟩ := way_v F w
  obtain ⟨e, hk⟩ := xf_in F I nw e0 k0 w
  have hb := (fo_b4 F v1 v2).1
  obtain ⟨c1, c2⟩ := I.2.2.2.2 _ v1 h v3 e (nw _ v1) (by have := F.2.1; omega)
  rcases z with z | ⟨p', hs, z⟩ | ⟨st', h', w', ep, hne⟩
  · exact z (xk_A (p' := 0) (F.2.2.2 _ v1 v2).1 hb v3 hk c1).1
  · have := (c2 p' hs).1
    omega
  · obtain ⟨-, -, v3', -⟩ := way_v F w'
    obtain ⟨e', -⟩ := xf_in F I nw e0 k0 w'
    rw [ep, e] at e'
    exact hne (gp_inj (by omega) (by omega) e').symm
def AllR (D : Nat → Nat) (L nm p s : Nat) : Prop := ∀ st h, Way D L nm st h → wy_p st = p → wy_c st s = 1
theorem xf_ref {m L nm tc p h s : Nat} {D : Nat → Nat} {S : Nat → Prop} {H K W : Nat → Int32} (F : fo_OK tc L D S) (I : XI m L nm D S 99 H K W) (nw : xNW m L W) (e0 : H (m * 32) = nI 0) (k0 : ∀ s, s < 4 → kd_in (wy_c (wy_i nm) s) (kk m K 0 s)) (hp : p < L) (h5 : h ≤ 5) (eH : H (m * 32 + p) = nI h) (hs : s < 4 + h) : K ((m * 32 + p) * 9 + s) = 4 ↔ AllR D L nm p s := by
  have nb := xf_end F I nw e0 k0
  obtain ⟨k8, ek⟩ := kk_8 I p s
  have hpos := (I.2.2.1 p hp h h5 eH).2 s hs
  obtain ⟨w1, w2⟩ := I.2.2.2.1 nb p hp h h5 eH
  constructor
  · intro e st h' w ep
    obtain ⟨e2, hk⟩ := xf_in F I nw e0 k0 w
    obtain ⟨-, -, v3', -⟩ := way_v F w
    rw [ep, eH] at e2
    have := gp_inj (by omega) (by omega) e2
    subst this
    have hk2 := hk s hs
    rw [ep] at hk2
    have e4 : kk m K p s = 4 := by
      unfold kk; rw [e]; rfl
    rw [e4] at hk2
    exact kd_4 _ (wy_cB _ _) hk2
  · intro a
    have e4 : kk m K p s = 4 := kd_is4 _ k8 hpos (fun c hc hk => by
      obtain ⟨st, d1, d2, d3⟩ := w2 s hs c hc hk
      rw [← d3]
      exact a st h d1 d2)
    rw [ek, e4]
    rfl
/-- the class's check of the flow -/
theorem xf_all (f_typeCount f_methodCount f_linked f_faultPlace f_flowHeight f_active f_ticksLeft f_outcome f_latestResult : Int32) (a_typeAbove a_fieldSet a_methodType a_methodName a_codeLength a_bytes a_isStart a_heightAt a_kindsAt a_isWaiting a_flowKinds a_globals a_objectType a_fieldValue a_isMarked a_frameMethod a_frameAt a_frameHeight a_slots : Nat → Int32) {m L nm tc : Nat} {D : Nat → Nat} {S : Nat → Prop} (F : fo_OK tc L D S) (hm : m < 8) (eL : a_codeLength m = nI L) (hn : nm < 16) (eN : a_methodName m = nI nm) (hD : ∀ p, p < 33 → a_bytes (m * 32 + p) = nI (D p) ∧ D p < 256) (KB : ∀ i, ∃ a, a < 8 ∧ a_kindsAt i = nI a) :
    (WBad D L nm ∧ ∃ (fh : Int32) (FK H' K' W' : Nat → Int32), (∀ i, ∃ a, a < 8 ∧ K' i = nI a) ∧ XFr m a_heightAt a_kindsAt H' K' ∧ ∀ post : Int32 → SX → Prop, post 0 (f_typeCount, f_methodCount, f_linked, f_faultPlace, fh, f_active, f_ticksLeft, f_outcome, f_latestResult, a_typeAbove, a_fieldSet, a_methodType, a_methodName, a_codeLength, a_bytes, a_isStart, H', K', W', FK, a_globals, a_objectType, a_fieldValue, a_isMarked, a_frameMethod, a_frameAt, a_frameHeight, a_slots) → wpX_flowHolds post (f_typeCount, f_methodCount, f_linked, f_faultPlace, f_flowHeight, f_active, f_ticksLeft, f_outcome, f_latestResult, a_typeAbove, a_fieldSet, a_methodType, a_methodName, a_codeLength, a_bytes, a_isStart, a_heightAt, a_kindsAt, a_isWaiting, a_flowKinds, a_globals, a_objectType, a_fieldValue, a_isMarked, a_frameMethod, a_frameAt, a_frameHeight, a_slots) (nI m)) ∨
    (¬ WBad D L nm ∧ ∃ (fh : Int32) (FK H' K' W' : Nat → Int32), XI m L nm D S 99 H' K' W' ∧ xNW m L W' ∧ H' (m * 32) = nI 0 ∧ (∀ s, s < 4 → kd_in (wy_c (wy_i nm) s) (kk m K' 0 s)) ∧ XFr m a_heightAt a_kindsAt H' K' ∧ ∀ post : Int32 → SX → Prop, post 1 (f_typeCount, f_methodCount, f_linked, f_faultPlace, fh, f_active, f_ticksLeft, f_outcome, f_latestResult, a_typeAbove, a_fieldSet, a_methodType, a_methodName, a_codeLength, a_bytes, a_isStart, H', K', W', FK, a_globals, a_objectType, a_fieldValue, a_isMarked, a_frameMethod, a_frameAt, a_frameHeight, a_slots) → wpX_flowHolds post (f_typeCount, f_methodCount, f_linked, f_faultPlace, f_flowHeight, f_active, f_ticksLeft, f_outcome, f_latestResult, a_typeAbove, a_fieldSet, a_methodType, a_methodName, a_codeLength, a_bytes, a_isStart, a_heightAt, a_kindsAt, a_isWaiting, a_flowKinds, a_globals, a_objectType, a_fieldValue, a_isMarked, a_frameMethod, a_frameAt, a_frameHeight, a_slots) (nI m)) := by
  obtain ⟨fh, FK, H1, K1, W1, s1, s2, s3, s4, s5⟩ := fl_start f_typeCount f_methodCount f_linked f_faultPlace f_flowHeight f_active f_ticksLeft f_outcome f_latestResult a_typeAbove a_fieldSet a_methodType a_methodName a_codeLength a_bytes a_isStart a_heightAt a_kindsAt a_isWaiting a_flowKinds a_globals a_objectType a_fieldValue a_isMarked a_frameMethod a_frameAt a_frameHeight a_slots F hm eL hn eN KB
  rcases fl_9 f_typeCount f_methodCount f_linked f_faultPlace f_active f_ticksLeft f_outcome f_latestResult a_typeAbove a_fieldSet a_methodType a_methodName a_codeLength a_bytes a_isStart a_globals a_objectType a_fieldValue a_isMarked a_frameMethod a_frameAt a_frameHeight a_slots F hm eL hn eN hD 870 0 rfl 1 fh FK H1 K1 W1 s1 (Or.inr rfl) (fun z => absurd z (by decide)) (fun _ => Or.inl (by omega)) with ⟨wb, fh2, FK2, H2, K2, W2, j1, j2, J2⟩ | ⟨fh2, FK2, H2, K2, W2, j1, j2, j3, j4, J2⟩
  · exact Or.inl ⟨wb, fh2, FK2, H2, K2, W2, j1, XFr_t s2 j2, fun post j => s5 _ (J2 post j)⟩
  · obtain ⟨q1, q2⟩ := j2 0 (by omega) 0 (by omega) s3
    have k0 : ∀ s, s < 4 → kd_in (wy_c (wy_i nm) s) (kk m K2 0 s) := fun s hs => q2 s (by omega) _ (wy_cB _ _) (s4 s hs)
    exact Or.inr ⟨xf_end F j1 j4 q1 k0, fh2, FK2, H2, K2, W2, j1, j4, q1, k0, XFr_t s2 j3, fun post j => s5 _ (J2 post j)⟩
end
section
/-! ===== longs by their bits ===== -/
def lb (w : Int64) (i : Nat) : Bool := w.toBitVec.getLsbD i
theorem lb_ext {w v : Int64} (h : ∀ i, i < 64 → lb w i = lb v i) : w = v := wb_inj (BitVec.eq_of_getLsbD_eq (fun i hi => h i hi))
theorem lb_0 (i : Nat) : lb 0 i = false := BitVec.getLsbD_zero
theorem lb_lN {n i : Nat} (hi : i < 64) : lb (lN n) i = decide (n / 2 ^ i % 2 = 1) := by
  unfold lb
  rw [wb_tb, BitVec.getLsbD_ofNat, Nat.testBit_eq_decide_div_mod_eq]
  simp [hi]
theorem lb_one : ∀ k, k < 64 → (1 : Int64) <<< ((nI k).toInt64 &&& 63) = lN (2 ^ k) := by decide +kernel
theorem lb_set (w : Int64) {k i : Nat} (hk : k < 64) (hi : i < 64) : lb (w ||| ((1 : Int64) <<< ((nI k).toInt64 &&& 63))) i = (lb w i || decide (i = k)) := by
  rw [lb_one k hk]
  unfold lb
  rw [Int64.toBitVec_or, BitVec.getLsbD_or, wb_tb, BitVec.getLsbD_ofNat, Nat.testBit_two_pow]
  congr 1
  by_cases e : i = k
  · subst e; simp [hi]
  · have : ¬ k = i := fun z => e z.symm
    simp [e, this]
theorem lb_tst (w : Int64) {k : Nat} (hk : k < 64) : ((w.toUInt64 >>> ((nI k).toInt64.toUInt64 &&& Int64.toUInt64 63)).toInt64 &&& 1) = if lb w k = true then 1 else 0 := by
  obtain ⟨n, hn, rfl⟩ := wb_of w
  rw [lb_lN hk]
  rw [wb_cu k hk]
  apply wb_inj
  apply BitVec.eq_of_getLsbD_eq
  intro i hi
  rw [Int64.toBitVec_and]
  have e : ((lN n).toUInt64 >>> UInt64.ofNat k).toInt64.toBitVec = (lN n).toBitVec >>> k := by
    show ((lN n).toUInt64 >>> UInt64.ofNat k).toBitVec = _
    rw [UInt64.toBitVec_shiftRight]
    show (lN n).toUInt64.toBitVec >>> ((UInt64.ofNat k).toBitVec % 64) = _
    have h2 : ((UInt64.ofNat k).toBitVec % 64 : BitVec 64).toNat = k := by
      revert k
      decide +kernel
    rw [BitVec.ushiftRight_eq', h2]
    rfl
  rw [e, BitVec.getLsbD_and, BitVec.getLsbD_ushiftRight, wb_tb, BitVec.getLsbD_ofNat]
  have h1 : ∀ i, i < 64 → (1 : Int64).toBitVec.getLsbD i = decide (i = 0) := by decide +kernel
  rw [h1 i hi]
  by_cases e0 : i = 0
  · subst e0
    rw [Nat.add_zero, Nat.testBit_eq_decide_div_mod_eq]
    by_cases e1 : n / 2 ^ k % 2 = 1
    · rw [if_pos (decide_eq_true e1), h1 0 (by omega)]
      simp [hk, e1]
    · rw [if_neg (fun z => e1 (of_decide_eq_true z))]
      show _ = (0 : Int64).toBitVec.getLsbD 0
      rw [show (0 : Int64).toBitVec.getLsbD 0 = false from BitVec.getLsbD_zero]
      simp [e1]
  · have : ((if decide (n / 2 ^ k % 2 = 1) = true then 1 else 0 : Int64).toBitVec.getLsbD i) = false := by
      split
      · rw [h1 i hi]; simp [e0]
      · exact BitVec.getLsbD_zero
    rw [this]
    simp [e0]
theorem lb_tEq (w v : Int64) {k : Nat} (hk : k < 64) : (((w.toUInt64 >>> ((nI k).toInt64.toUInt64 &&& Int64.toUInt64 63)).toInt64 &&& 1) = ((v.toUInt64 >>> ((nI k).toInt64.toUInt64 &&& Int64.toUInt64 63)).toInt64 &&& 1)) = (lb w k = lb v k) := by
  rw [lb_tst w hk, lb_tst v hk]
  cases lb w k <;> cases lb v k <;> simp
/-- the numbers in a set of 36864 bits -/
def sb (a : Nat → Int64) (st : Nat) : Prop := lb (a (st / 64)) (st % 64) = true
theorem sb_set (a : Nat → Int64) {st : Nat} (st' : Nat) : sb (vp_updL a (st / 64) (a (st / 64) ||| ((1 : Int64) <<< ((nI (st % 64)).toInt64 &&& 63)))) st' ↔ sb a st' ∨ st' = st := by
  unfold sb
  by_cases e : st' / 64 = st / 64
  · rw [e, pk_uLs, lb_set _ (by omega) (by omega), Bool.or_eq_true]
    constructor
    · rintro (z | z)
      · exact Or.inl z
      · have := of_decide_eq_true z
        exact Or.inr (by omega)
    · rintro (z | z)
      · exact Or.inl z
      · subst z; exact Or.inr (by simp)
  · rw [pk_uLn e]
    constructor
    · exact fun z => Or.inl z
    · rintro (z | z)
      · exact z
      · subst z; exact absurd rfl e
/-! ===== the reference's stack of kinds ===== -/
theorem yr_k : ∀ h, h < 6 → ∀ r, r < 32 → 1 ≤ h → ((nI r >>> (nI (h - 1) &&& 31)) &&& 1) = nI (r / 2 ^ (h - 1) % 2) := by decide +kernel
theorem yr_p : ∀ h, h < 6 → ∀ r, r < 2 ^ h → 1 ≤ h → (nI r &&& (((1 : Int32) <<< (nI (h - 1) &&& 31)) ^^^ (-1))) = nI (r % 2 ^ (h - 1)) := by decide +kernel
theorem yr_u : ∀ h, h < 5 → ∀ r, r < 2 ^ h → ∀ k, k < 2 → (nI r ||| (nI k <<< (nI h &&& 31))) = nI (r + k * 2 ^ h) := by decide +kernel
theorem ev_ypop (g_types g_methods g_place g_result g_linked g_bad g_active g_ticks g_code : Int32) (b_above b_ownField b_mType b_mName b_mLength b_bytes b_starts : Nat → Int32) (b_seen b_done : Nat → Int64) (b_heights b_local b_sure b_objType b_objField b_marked b_global b_fMethod b_fPc b_fHigh b_fLocal b_fEntry : Nat → Int32) {post : Int32 → SY → Prop} {h r : Nat} (h5 : h ≤ 5) (hr : r < 2 ^ h) (h1 : 1 ≤ h) (J : post (nI (r / 2 ^ (h - 1) % 2)) (g_types, g_methods, g_place, g_result, g_linked, g_bad, nI (h - 1), nI (r % 2 ^ (h - 1)), g_active, g_ticks, g_code, b_above, b_ownField, b_mType, b_mName, b_mLength, b_bytes, b_starts, b_seen, b_done, b_heights, b_local, b_sure, b_objType, b_objField, b_marked, b_global, b_fMethod, b_fPc, b_fHigh, b_fLocal, b_fEntry)) : wpY_pop post (g_types, g_methods, g_place, g_result, g_linked, g_bad, nI h, nI r, g_active, g_ticks, g_code, b_above, b_ownField, b_mType, b_mName, b_mLength, b_bytes, b_starts, b_seen, b_done, b_heights, b_local, b_sure, b_objType, b_objField, b_marked, b_global, b_fMethod, b_fPc, b_fHigh, b_fLocal, b_fEntry) := by
  have hp := wy_p5 h (by omega)
  unfold wpY_pop
  refine br_f (nI_ne0 (by omega) (by omega)) (nm_r (gm_sl (n := 1) h1) (nm_r (yr_k h (by omega) r (by omega) h1) (nm_r (yr_p h (by omega) r hr h1) J)))
theorem ev_ypop0 (g_types g_methods g_place g_result g_linked g_bad g_refs g_active g_ticks g_code : Int32) (b_above b_ownField b_mType b_mName b_mLength b_bytes b_starts : Nat → Int32) (b_seen b_done : Nat → Int64) (b_heights b_local b_sure b_objType b_objField b_marked b_global b_fMethod b_fPc b_fHigh b_fLocal b_fEntry : Nat → Int32) {post : Int32 → SY → Prop} (J : post 0 (g_types, g_methods, g_place, g_result, g_linked, 1, nI 0, g_refs, g_active, g_ticks, g_code, b_above, b_ownField, b_mType, b_mName, b_mLength, b_bytes, b_starts, b_seen, b_done, b_heights, b_local, b_sure, b_objType, b_objField, b_marked, b_global, b_fMethod, b_fPc, b_fHigh, b_fLocal, b_fEntry)) : wpY_pop post (g_types, g_methods, g_place, g_result, g_linked, g_bad, nI 0, g_refs, g_active, g_ticks, g_code, b_above, b_ownField, b_mType, b_mName, b_mLength, b_bytes, b_starts, b_seen, b_done, b_heights, b_local, b_sure, b_objType, b_objField, b_marked, b_global, b_fMethod, b_fPc, b_fHigh, b_fLocal, b_fEntry) := br_t rfl J
theorem pop_any (g_types g_methods g_place g_result g_linked g_high g_refs g_active g_ticks g_code : Int32) (b_above b_ownField b_mType b_mName b_mLength b_bytes b_starts : Nat → Int32) (b_seen b_done : Nat → Int64) (b_heights b_local b_sure b_objType b_objField b_marked b_global b_fMethod b_fPc b_fHigh b_fLocal b_fEntry : Nat → Int32) {post : Int32 → SY → Prop} (J : ∀ r hi re, post r (g_types, g_methods, g_place, g_result, g_linked, 1, hi, re, g_active, g_ticks, g_code, b_above, b_ownField, b_mType, b_mName, b_mLength, b_bytes, b_starts, b_seen, b_done, b_heights, b_local, b_sure, b_objType, b_objField, b_marked, b_global, b_fMethod, b_fPc, b_fHigh, b_fLocal, b_fEntry)) : wpY_pop post (g_types, g_methods, g_place, g_result, g_linked, 1, g_high, g_refs, g_active, g_ticks, g_code, b_above, b_ownField, b_mType, b_mName, b_mLength, b_bytes, b_starts, b_seen, b_done, b_heights, b_local, b_sure, b_objType, b_objField, b_marked, b_global, b_fMethod, b_fPc, b_fHigh, b_fLocal, b_fEntry) := ⟨fun _ => J _ _ _, fun _ => nm_e (nm_e (nm_e (J _ _ _)))⟩
theorem need_any (g_types g_methods g_place g_result g_linked g_high g_refs g_active g_ticks g_code : Int32) (b_above b_ownField b_mType b_mName b_mLength b_bytes b_starts : Nat → Int32) (b_seen b_done : Nat → Int64) (b_heights b_local b_sure b_objType b_objField b_marked b_global b_fMethod b_fPc b_fHigh b_fLocal b_fEntry : Nat → Int32) {post : SY → Prop} (k : Int32) (J : ∀ hi re, post (g_types, g_methods, g_place, g_result, g_linked, 1, hi, re, g_active, g_ticks, g_code, b_above, b_ownField, b_mType, b_mName, b_mLength, b_bytes, b_starts, b_seen, b_done, b_heights, b_local, b_sure, b_objType, b_objField, b_marked, b_global, b_fMethod, b_fPc, b_fHigh, b_fLocal, b_fEntry)) : wpY_need post (g_types, g_methods, g_place, g_result, g_linked, 1, g_high, g_refs, g_active, g_ticks, g_code, b_above, b_ownField, b_mType, b_mName, b_mLength, b_bytes, b_starts, b_seen, b_done, b_heights, b_local, b_sure, b_objType, b_objField, b_marked, b_global, b_fMethod, b_fPc, b_fHigh, b_fLocal, b_fEntry) k := by
  unfold wpY_need
  exact pop_any g_types g_methods g_place g_result g_linked g_high g_refs g_active g_ticks g_code b_above b_ownField b_mType b_mName b_mLength b_bytes b_starts b_seen b_done b_heights b_local b_sure b_objType b_objField b_marked b_global b_fMethod b_fPc b_fHigh b_fLocal b_fEntry (fun r hi re => ⟨fun _ => J hi re, fun _ => J hi re⟩)
theorem push_any (g_types g_methods g_place g_result g_linked g_high g_refs g_active g_ticks g_code : Int32) (b_above b_ownField b_mType b_mName b_mLength b_bytes b_starts : Nat → Int32) (b_seen b_done : Nat → Int64) (b_heights b_local b_sure b_objType b_objField b_marked b_global b_fMethod b_fPc b_fHigh b_fLocal b_fEntry : Nat → Int32) {post : SY → Prop} (k : Int32) (J : ∀ hi re, post (g_types, g_methods, g_place, g_result, g_linked, 1, hi, re, g_active, g_ticks, g_code, b_above, b_ownField, b_mType, b_mName, b_mLength, b_bytes, b_starts, b_seen, b_done, b_heights, b_local, b_sure, b_objType, b_objField, b_marked, b_global, b_fMethod, b_fPc, b_fHigh, b_fLocal, b_fEntry)) : wpY_push post (g_types, g_methods, g_place, g_result, g_linked, 1, g_high, g_refs, g_active, g_ticks, g_code, b_above, b_ownField, b_mType, b_mName, b_mLength, b_bytes, b_starts, b_seen, b_done, b_heights, b_local, b_sure, b_objType, b_objField, b_marked, b_global, b_fMethod, b_fPc, b_fHigh, b_fLocal, b_fEntry) k := ⟨fun _ => J _ _, fun _ => nm_e (nm_e (J _ _))⟩
theorem reach_bad (g_types g_methods g_place g_result g_linked g_high g_refs g_active g_ticks g_code : Int32) (b_above b_ownField b_mType b_mName b_mLength b_bytes b_starts : Nat → Int32) (b_seen b_done : Nat → Int64) (b_heights b_local b_sure b_objType b_objField b_marked b_global b_fMethod b_fPc b_fHigh b_fLocal b_fEntry : Nat → Int32) {post : SY → Prop} (x y : Int32) (J : post (g_types, g_methods, g_place, g_result, g_linked, 1, g_high, g_refs, g_active, g_ticks, g_code, b_above, b_ownField, b_mType, b_mName, b_mLength, b_bytes, b_starts, b_seen, b_done, b_heights, b_local, b_sure, b_objType, b_objField, b_marked, b_global, b_fMethod, b_fPc, b_fHigh, b_fLocal, b_fEntry)) : wpY_reach post (g_types, g_methods, g_place, g_result, g_linked, 1, g_high, g_refs, g_active, g_ticks, g_code, b_above, b_ownField, b_mType, b_mName, b_mLength, b_bytes, b_starts, b_seen, b_done, b_heights, b_local, b_sure, b_objType, b_objField, b_marked, b_global, b_fMethod, b_fPc, b_fHigh, b_fLocal, b_fEntry) x y := br_f (by decide) J
theorem ev_need (g_types g_methods g_place g_result g_linked g_active g_ticks g_code : Int32) (b_above b_ownField b_mType b_mName b_mLength b_bytes b_starts : Nat → Int32) (b_seen b_done : Nat → Int64) (b_heights b_local b_sure b_objType b_objField b_marked b_global b_fMethod b_fPc b_fHigh b_fLocal b_fEntry : Nat → Int32) {post : SY → Prop} {h r k : Nat} (h5 : h ≤ 5) (hr : r < 2 ^ h) (hk : k < 2) (J1 : 1 ≤ h → r / 2 ^ (h - 1) % 2 = k → post (g_types, g_methods, g_place, g_result, g_linked, 0, nI (h - 1), nI (r % 2 ^ (h - 1)), g_active, g_ticks, g_code, b_above, b_ownField, b_mType, b_mName, b_mLength, b_bytes, b_starts, b_seen, b_done, b_heights, b_local, b_sure, b_objType, b_objField, b_marked, b_global, b_fMethod, b_fPc, b_fHigh, b_fLocal, b_fEntry)) (J0 : ¬ (1 ≤ h ∧ r / 2 ^ (h - 1) % 2 = k) → ∀ hi re, post (g_types, g_methods, g_place, g_result, g_linked, 1, hi, re, g_active, g_ticks, g_code, b_above, b_ownField, b_mType, b_mName, b_mLength, b_bytes, b_starts, b_seen, b_done, b_heights, b_local, b_sure, b_objType, b_objField, b_marked, b_global, b_fMethod, b_fPc, b_fHigh, b_fLocal, b_fEntry)) : wpY_need post (g_types, g_methods, g_place, g_result, g_linked, 0, nI h, nI r, g_active, g_ticks, g_code, b_above, b_ownField, b_mType, b_mName, b_mLength, b_bytes, b_starts, b_seen, b_done, b_heights, b_local, b_sure, b_objType, b_objField, b_marked, b_global, b_fMethod, b_fPc, b_fHigh, b_fLocal, b_fEntry) (nI k) := by
  unfold wpY_need
  rcases Nat.eq_zero_or_pos h with rfl | h1
  · exact ev_ypop0 g_types g_methods g_place g_result g_linked 0 (nI r) g_active g_ticks g_code b_above b_ownField b_mType b_mName b_mLength b_bytes b_starts b_seen b_done b_heights b_local b_sure b_objType b_objField b_marked b_global b_fMethod b_fPc b_fHigh b_fLocal b_fEntry ⟨fun _ => J0 (by omega) _ _, fun _ => J0 (by omega) _ _⟩
  · have hm : r / 2 ^ (h - 1) % 2 < 2 := Nat.mod_lt _ (by decide)
    refine ev_ypop g_types g_methods g_place g_result g_linked 0 g_active g_ticks g_code b_above b_ownField b_mType b_mName b_mLength b_bytes b_starts b_seen b_done b_heights b_local b_sure b_objType b_objField b_marked b_global b_fMethod b_fPc b_fHigh b_fLocal b_fEntry h5 hr h1 ?_
    by_cases e : r / 2 ^ (h - 1) % 2 = k
    · exact br_t (by rw [e]) (J1 h1 e)
    · exact br_f (fun z => e (gp_inj (by omega) (by omega) z)) (J0 (fun w => e w.2) _ _)
theorem ev_ypush (g_types g_methods g_place g_result g_linked g_active g_ticks g_code : Int32) (b_above b_ownField b_mType b_mName b_mLength b_bytes b_starts : Nat → Int32) (b_seen b_done : Nat → Int64) (b_heights b_local b_sure b_objType b_objField b_marked b_global b_fMethod b_fPc b_fHigh b_fLocal b_fEntry : Nat → Int32) {post : SY → Prop} {h r k : Nat} (h5 : h ≤ 5) (hr : r < 2 ^ h) (hk : k < 2) (J1 : h < 5 → post (g_types, g_methods, g_place, g_result, g_linked, 0, nI (h + 1), nI (r + k * 2 ^ h), g_active, g_ticks, g_code, b_above, b_ownField, b_mType, b_mName, b_mLength, b_bytes, b_starts, b_seen, b_done, b_heights, b_local, b_sure, b_objType, b_objField, b_marked, b_global, b_fMethod, b_fPc, b_fHigh, b_fLocal, b_fEntry)) (J0 : ¬ h < 5 → post (g_types, g_methods, g_place, g_result, g_linked, 1, nI h, nI r, g_active, g_ticks, g_code, b_above, b_ownField, b_mType, b_mName, b_mLength, b_bytes, b_starts, b_seen, b_done, b_heights, b_local, b_sure, b_objType, b_objField, b_marked, b_global, b_fMethod, b_fPc, b_fHigh, b_fLocal, b_fEntry)) : wpY_push post (g_types, g_methods, g_place, g_result, g_linked, 0, nI h, nI r, g_active, g_ticks, g_code, b_above, b_ownField, b_mType, b_mName, b_mLength, b_bytes, b_starts, b_seen, b_done, b_heights, b_local, b_sure, b_objType, b_objField, b_marked, b_global, b_fMethod, b_fPc, b_fHigh, b_fLocal, b_fEntry) (nI k) := by
  unfold wpY_push
  refine pk_eq h 5 (fun e => J0 (by omega)) (fun e => nm_r (yr_u h (by omega) r hr k hk) (nm_r (nI_1 h) (J1 (by omega))))
end
section
theorem ys_b1 : ∀ k, k < 4 → ∀ s, s < 9 → bt (((1 : Int32) <<< (nI k &&& 31)) ^^^ (-1)) s = decide (s ≠ k) := by decide +kernel
theorem ys_b2 : ∀ r, r < 32 → ∀ s, s < 9 → bt ((nI r <<< ((4 : Int32) &&& 31)) ||| 15) s = decide (s < 4 ∨ r / 2 ^ (s - 4) % 2 = 1) := by decide +kernel
theorem ev_r123 (g_types g_methods g_place g_result g_linked g_bad g_high g_active g_ticks g_code : Int32) (b_above b_ownField b_mType b_mName b_mLength b_bytes b_starts : Nat → Int32) (b_seen b_done : Nat → Int64) (b_heights b_local b_objType b_objField b_marked b_global b_fMethod b_fPc b_fHigh b_fLocal b_fEntry : Nat → Int32) {post : SY → Prop} {m p r : Nat} {l : Nat → Nat} {su0 : Nat → Int32} (hm : m < 8) (hp : p < 32) (hr : r < 32) (hl : ∀ s, s < 4 → b_local s = nI (l s) ∧ l s < 3)
    (J : ∀ su' : Nat → Int32, (∀ i, i ≠ m * 32 + p → su' i = su0 i) → (∀ s, s < 9 → (bt (su' (m * 32 + p)) s = true ↔ (bt (su0 (m * 32 + p)) s = true ∧ (s < 4 → l s = 1) ∧ (4 ≤ s → r / 2 ^ (s - 4) % 2 = 1)))) → post (g_types, g_methods, g_place, g_result, g_linked, g_bad, g_high, nI r, g_active, g_ticks, g_code, b_above, b_ownField, b_mType, b_mName, b_mLength, b_bytes, b_starts, b_seen, b_done, b_heights, b_local, su', b_objType, b_objField, b_marked, b_global, b_fMethod, b_fPc, b_fHigh, b_fLocal, b_fEntry)) :
    ∀ d i, i + d = 4 → ∀ su : Nat → Int32, (∀ j, j ≠ m * 32 + p → su j = su0 j) → (∀ s, s < 9 → (bt (su (m * 32 + p)) s = true ↔ (bt (su0 (m * 32 + p)) s = true ∧ (s < i → l s = 1)))) → wY_reach_123 post (nI m) (nI p) g_types g_methods g_place g_result g_linked g_bad g_high (nI r) g_active g_ticks g_code (d + 1) (nI i) b_above b_ownField b_mType b_mName b_mLength b_bytes b_starts b_seen b_done b_heights b_local su b_objType b_objField b_marked b_global b_fMethod b_fPc b_fHigh b_fLocal b_fEntry := by
  intro d
  induction d with
  | zero =>
    intro i hi su h1 h2
    cases (show i = 4 by omega)
    unfold wY_reach_123
    simp (disch := omega) only [nI_clamp, gm_clL, gm_in, gm_inL, gm_ml, gm_al, gm_la, gm_sl, nI_add, pk_mul, gm_eqL, gm_leL, gm_ltL, gm_Lle, gm_Llt, gm_eq, gm_le, gm_lt, gm_m1, forall_eq, true_and, Nat.not_lt_zero, Nat.add_sub_cancel, gm_z2, gm_z3, gm_z9, gm_z16, gm_z18, gm_z32, gm_z36, gm_z64, gm_z1152, not_true_eq_false, not_false_eq_true, false_implies, true_implies, and_true, implies_true, gm_z1, Nat.reduceEqDiff, Nat.reduceLT, Nat.reduceLeDiff, Nat.reduceAdd, Nat.reduceMul, Nat.reduceSub]
    refine J _ (fun j hj => by rw [pk_un hj]; exact h1 j hj) (fun s hs => ?_)
    rw [pk_us, b_and, ys_b2 r hr s hs, Bool.and_eq_true, h2 s hs, decide_eq_true_eq]
    constructor
    · rintro ⟨⟨a, b⟩, c⟩
      exact ⟨a, b, fun z => c.resolve_left (by omega)⟩
    · rintro ⟨a, b, c⟩
      refine ⟨⟨a, b⟩, ?_⟩
      by_cases z : s < 4
      · exact Or.inl z
      · exact Or.inr (c (by omega))
  | succ d ih =>
    intro i hi su h1 h2
    obtain ⟨e1, e2⟩ := hl i (by omega)
    unfold wY_reach_123
    simp (disch := omega) only [nI_clamp, gm_clL, gm_in, gm_inL, gm_ml, gm_al, gm_la, gm_sl, nI_add, pk_mul, gm_eqL, gm_leL, gm_ltL, gm_Lle, gm_Llt, gm_eq, gm_le, gm_lt, gm_m1, forall_eq, true_and, Nat.not_lt_zero, Nat.add_sub_cancel, gm_z2, gm_z3, gm_z9, gm_z16, gm_z18, gm_z32, gm_z36, gm_z64, gm_z1152, not_true_eq_false, not_false_eq_true, false_implies, true_implies, and_true, implies_true, gm_z1, Nat.reduceEqDiff, Nat.reduceLT, Nat.reduceLeDiff, Nat.reduceAdd, Nat.reduceMul, Nat.reduceSub, e1]
    refine ⟨fun z => absurd z (by omega), fun _ => ⟨fun e => ih (i + 1) (by omega) su h1 (fun s hs => ?_), fun e => ih (i + 1) (by omega) _ (fun j hj => by rw [pk_un hj]; exact h1 j hj) (fun s hs => ?_)⟩⟩
    · rw [h2 s hs]
      constructor
      · rintro ⟨a, b⟩
        refine ⟨a, fun z => ?_⟩
        by_cases e3 : s = i
        · subst e3; exact e
        · exact b (by omega)
      · rintro ⟨a, b⟩
        exact ⟨a, fun z => b (by omega)⟩
    · rw [pk_us, b_and, ys_b1 i (by omega) s hs, Bool.and_eq_true, h2 s hs, decide_eq_true_eq]
      constructor
      · rintro ⟨⟨a, b⟩, c⟩
        exact ⟨a, fun z => b (by omega)⟩
      · rintro ⟨a, b⟩
        refine ⟨⟨a, fun z => b (by omega)⟩, fun e3 => ?_⟩
        subst e3
        exact e (b (by omega))
theorem ev_reach (g_types g_methods g_place g_result g_linked g_active g_ticks g_code : Int32) (b_above b_ownField b_mType b_mName b_mLength b_bytes b_starts : Nat → Int32) (b_seen b_done : Nat → Int64) (b_heights b_local b_sure b_objType b_objField b_marked b_global b_fMethod b_fPc b_fHigh b_fLocal b_fEntry : Nat → Int32) {post : SY → Prop} {m L p' h' r : Nat} {l : Nat → Nat} (hm : m < 8) (hL : L ≤ 32) (eL : b_mLength m = nI L) (hp : p' < 1000) (h5 : h' ≤ 5) (hr : r < 32) (hl : ∀ s, s < 4 → b_local s = nI (l s)) (hl0 : l 0 < 2) (hl1 : l 1 < 2) (hl2 : l 2 < 3) (hl3 : l 3 < 3) (hh : ∀ p, p < 32 → b_heights p = -1 ∨ ∃ h, h ≤ 5 ∧ b_heights p = nI h)
    (J1 : L ≤ p' → post (g_types, g_methods, g_place, g_result, g_linked, 1, nI h', nI r, g_active, g_ticks, g_code, b_above, b_ownField, b_mType, b_mName, b_mLength, b_bytes, b_starts, b_seen, b_done, b_heights, b_local, b_sure, b_objType, b_objField, b_marked, b_global, b_fMethod, b_fPc, b_fHigh, b_fLocal, b_fEntry)) (J2 : p' < L → ∀ h0, h0 ≤ 5 → b_heights p' = nI h0 → h0 ≠ h' → post (g_types, g_methods, g_place, g_result, g_linked, 1, nI h', nI r, g_active, g_ticks, g_code, b_above, b_ownField, b_mType, b_mName, b_mLength, b_bytes, b_starts, b_seen, b_done, b_heights, b_local, b_sure, b_objType, b_objField, b_marked, b_global, b_fMethod, b_fPc, b_fHigh, b_fLocal, b_fEntry))
    (J3 : p' < L → (b_heights p' = -1 ∨ b_heights p' = nI h') → ∀ (se : Nat → Int64) (su : Nat → Int32), (∀ st', sb se st' ↔ sb b_seen st' ∨ st' = wy_e p' r (l 0) (l 1) (l 2) (l 3)) → (∀ i, i ≠ m * 32 + p' → su i = b_sure i) → (∀ s, s < 9 → (bt (su (m * 32 + p')) s = true ↔ (bt (b_sure (m * 32 + p')) s = true ∧ wy_c (wy_e p' r (l 0) (l 1) (l 2) (l 3)) s = 1))) → post (g_types, g_methods, g_place, g_result, g_linked, 0, nI h', nI r, g_active, g_ticks, g_code, b_above, b_ownField, b_mType, b_mName, b_mLength, b_bytes, b_starts, se, b_done, upd b_heights p' (nI h'), b_local, su, b_objType, b_objField, b_marked, b_global, b_fMethod, b_fPc, b_fHigh, b_fLocal, b_fEntry)) :
    wpY_reach post (g_types, g_methods, g_place, g_result, g_linked, 0, nI h', nI r, g_active, g_ticks, g_code, b_above, b_ownField, b_mType, b_mName, b_mLength, b_bytes, b_starts, b_seen, b_done, b_heights, b_local, b_sure, b_objType, b_objField, b_marked, b_global, b_fMethod, b_fPc, b_fHigh, b_fLocal, b_fEntry) (nI m) (nI p') := by
  unfold wpY_reach
  refine br_t rfl ⟨vp_in_nI hm (by omega), ?_⟩
  rw [nI_clamp (by omega), eL]
  refine pk_le L p' (fun z => J1 z) (fun z => ?_)
  have go : (b_heights p' = -1 ∨ b_heights p' = nI h') → wY_reach_46 post (nI m) (nI p') g_types g_methods g_place g_result g_linked 0 (nI h') (nI r) g_active g_ticks g_code b_above b_ownField b_mType b_mName b_mLength b_bytes b_starts b_seen b_done b_heights b_local b_sure b_objType b_objField b_marked b_global b_fMethod b_fPc b_fHigh b_fLocal b_fEntry := by
    intro e
    obtain ⟨d1, d2, d3, d4, d5, d6⟩ := wy_dec (p := p') hr hl0 hl1 hl2 hl3
    have hst : wy_e p' r (l 0) (l 1) (l 2) (l 3) < 36864 := by unfold wy_e; omega
    unfold wY_reach_46
    have est : (((((((((nI p' * 32) + nI r) * 2) + (b_local 0)) * 2) + (b_local 1)) * 3) + (b_local 2)) * 3) + (b_local 3) = nI (wy_e p' r (l 0) (l 1) (l 2) (l 3)) := by
      rw [hl 0 (by omega), hl 1 (by omega), hl 2 (by omega), hl 3 (by omega)]
      unfold wy_e
      simp (disch := omega) only [gm_ml, nI_add]
    refine ⟨vp_in_nI (by omega) (by omega), nm_e (nm_r est ?_)⟩
    have q1 : wy_e p' r (l 0) (l 1) (l 2) (l 3) - wy_e p' r (l 0) (l 1) (l 2) (l 3) / 64 * 64 = wy_e p' r (l 0) (l 1) (l 2) (l 3) % 64 := by omega
    generalize wy_e p' r (l 0) (l 1) (l 2) (l 3) = st at *
    simp (disch := omega) only [nI_clamp, gm_clL, gm_in, gm_inL, gm_ml, gm_al, gm_la, gm_sl, nI_add, pk_mul, gm_eqL, gm_leL, gm_ltL, gm_Lle, gm_Llt, gm_eq, gm_le, gm_lt, gm_m1, forall_eq, true_and, Nat.not_lt_zero, Nat.add_sub_cancel, gm_z2, gm_z3, gm_z9, gm_z16, gm_z18, gm_z32, gm_z36, gm_z64, gm_z1152, not_true_eq_false, not_false_eq_true, false_implies, true_implies, and_true, implies_true, gm_dl, gm_sb, q1]
    refine ⟨5, ev_r123 g_types g_methods g_place g_result g_linked 0 (nI h') g_active g_ticks g_code b_above b_ownField b_mType b_mName b_mLength b_bytes b_starts (vp_updL b_seen (st / 64) (b_seen (st / 64) ||| ((1 : Int64) <<< ((nI (st % 64)).toInt64 &&& 63)))) b_done (upd b_heights p' (nI h')) b_local b_objType b_objField b_marked b_global b_fMethod b_fPc b_fHigh b_fLocal b_fEntry (l := l) (su0 := b_sure) hm (by omega) hr (fun s hs => ⟨hl s hs, ?_⟩) (fun su' k1 k2 => J3 (by omega) e _ su' (fun st' => sb_set b_seen st') k1 (fun s hs => ?_)) 4 0 rfl b_sure (fun _ _ => rfl) (fun s hs => ⟨fun w => ⟨w, fun y => absurd y (by omega)⟩, fun w => w.1⟩)⟩
    · rcases (by omega : s = 0 ∨ s = 1 ∨ s = 2 ∨ s = 3) with rfl | rfl | rfl | rfl <;> omega
    · rw [k2 s hs]
      by_cases h4 : s < 4
      · have ec : wy_c st s = l s := by
          rcases (by omega : s = 0 ∨ s = 1 ∨ s = 2 ∨ s = 3) with rfl | rfl | rfl | rfl
          · exact d3
          · exact d4
          · exact d5
          · exact d6
        rw [ec]
        exact ⟨fun w => ⟨w.1, w.2.1 h4⟩, fun w => ⟨w.1, fun _ => w.2, fun y => absurd y (by omega)⟩⟩
      · have ec : wy_c st s = r / 2 ^ (s - 4) % 2 := by
          obtain ⟨j, rfl⟩ : ∃ j, s = 4 + j := ⟨s - 4, by omega⟩
          rw [wy_c4, d2, Nat.add_sub_cancel_left]
        rw [ec]
        exact ⟨fun w => ⟨w.1, w.2.2 (by omega)⟩, fun w => ⟨w.1, fun y => absurd y h4, fun _ => w.2⟩⟩
  have c : (nI p').toNatClampNeg = p' := nI_clamp (by omega)
  refine ⟨vp_in_nI (by omega) (by omega), ?_⟩
  rw [c]
  rcases hh p' (by omega) with e | ⟨h0, h05, e⟩
  · exact br_t (by rw [e]; decide) (go (Or.inl e))
  · refine br_f (by rw [e]; exact nI_pos (by omega)) ⟨vp_in_nI (by omega) (by omega), ?_⟩
    rw [e]
    refine pk_eq h0 h' (fun z2 => go (Or.inr (by rw [e, z2]))) (fun z2 => J2 (by omega) h0 h05 e z2)
/-! ===== needs, pushes, in order ===== -/
theorem yr_2 : ∀ h, h < 6 → ∀ r, r < 32 → 2 ≤ h → r % 2 ^ (h - 1) < 2 ^ (h - 1) ∧ r % 2 ^ (h - 1) / 2 ^ (h - 1 - 1) % 2 = r / 2 ^ (h - 2) % 2 ∧ r % 2 ^ (h - 1) % 2 ^ (h - 1 - 1) = r % 2 ^ (h - 2) := by decide +kernel
theorem yr_1 : ∀ h, h < 6 → ∀ r, r < 32 → 1 ≤ h → r % 2 ^ (h - 1) < 2 ^ (h - 1) := by decide +kernel
theorem yr_3 : ∀ h, h < 6 → ∀ r, r < 32 → 2 ≤ h → r % 2 ^ (h - 2) < 2 ^ (h - 2) := by decide +kernel
theorem g2 (g_types g_methods g_place g_result g_linked g_active g_ticks g_code : Int32) (b_above b_ownField b_mType b_mName b_mLength b_bytes b_starts : Nat → Int32) (b_seen b_done : Nat → Int64) (b_heights b_local b_sure b_objType b_objField b_marked b_global b_fMethod b_fPc b_fHigh b_fLocal b_fEntry : Nat → Int32) {T : SY → Prop} {h r k1 k2 : Nat} (h5 : h ≤ 5) (hr : r < 2 ^ h) (hk1 : k1 < 2) (hk2 : k2 < 2) (J1 : 2 ≤ h → r / 2 ^ (h - 1) % 2 = k1 → r / 2 ^ (h - 2) % 2 = k2 → T (g_types, g_methods, g_place, g_result, g_linked, 0, nI (h - 2), nI (r % 2 ^ (h - 2)), g_active, g_ticks, g_code, b_above, b_ownField, b_mType, b_mName, b_mLength, b_bytes, b_starts, b_seen, b_done, b_heights, b_local, b_sure, b_objType, b_objField, b_marked, b_global, b_fMethod, b_fPc, b_fHigh, b_fLocal, b_fEntry)) (J0 : ¬ (2 ≤ h ∧ r / 2 ^ (h - 1) % 2 = k1 ∧ r / 2 ^ (h - 2) % 2 = k2) → ∀ hi re, T (g_types, g_methods, g_place, g_result, g_linked, 1, hi, re, g_active, g_ticks, g_code, b_above, b_ownField, b_mType, b_mName, b_mLength, b_bytes, b_starts, b_seen, b_done, b_heights, b_local, b_sure, b_objType, b_objField, b_marked, b_global, b_fMethod, b_fPc, b_fHigh, b_fLocal, b_fEntry)) :
    wpY_need (fun u => match u with | (g_types1, g_methods1, g_place1, g_result1, g_linked1, g_bad1, g_high1, g_refs1, g_active1, g_ticks1, g_code1, b_above1, b_ownField1, b_mType1, b_mName1, b_mLength1, b_bytes1, b_starts1, b_seen1, b_done1, b_heights1, b_local1, b_sure1, b_objType1, b_objField1, b_marked1, b_global1, b_fMethod1, b_fPc1, b_fHigh1, b_fLocal1, b_fEntry1) => wpY_need T (g_types1, g_methods1, g_place1, g_result1, g_linked1, g_bad1, g_high1, g_refs1, g_active1, g_ticks1, g_code1, b_above1, b_ownField1, b_mType1, b_mName1, b_mLength1, b_bytes1, b_starts1, b_seen1, b_done1, b_heights1, b_local1, b_sure1, b_objType1, b_objField1, b_marked1, b_global1, b_fMethod1, b_fPc1, b_fHigh1, b_fLocal1, b_fEntry1) (nI k2)) (g_types, g_methods, g_place, g_result, g_linked, 0, nI h, nI r, g_active, g_ticks, g_code, b_above, b_ownField, b_mType, b_mName, b_mLength, b_bytes, b_starts, b_seen, b_done, b_heights, b_local, b_sure, b_objType, b_objField, b_marked, b_global, b_fMethod, b_fPc, b_fHigh, b_fLocal, b_fEntry) (nI k1) := by
  have hp := wy_p5 h (by omega)
  refine ev_need g_types g_methods g_place g_result g_linked g_active g_ticks g_code b_above b_ownField b_mType b_mName b_mLength b_bytes b_starts b_seen b_done b_heights b_local b_sure b_objType b_objField b_marked b_global b_fMethod b_fPc b_fHigh b_fLocal b_fEntry h5 hr hk1 (fun a1 a2 => ?_) (fun a hi re => need_any g_types g_methods g_place g_result g_linked hi re g_active g_ticks g_code b_above b_ownField b_mType b_mName b_mLength b_bytes b_starts b_seen b_done b_heights b_local b_sure b_objType b_objField b_marked b_global b_fMethod b_fPc b_fHigh b_fLocal b_fEntry _ (fun hi re => J0 (fun w => a ⟨by omega, w.2.1⟩) hi re))
  refine ev_need g_types g_methods g_place g_result g_linked g_active g_ticks g_code b_above b_ownField b_mType b_mName b_mLength b_bytes b_starts b_seen b_done b_heights b_local b_sure b_objType b_objField b_marked b_global b_fMethod b_fPc b_fHigh b_fLocal b_fEntry (by omega) (yr_1 h (by omega) r (by omega) a1) hk2 (fun b1 b2 => ?_) (fun b hi re => J0 (fun w => b ⟨by omega, ?_⟩) hi re)
  · obtain ⟨e1, e2, e3⟩ := yr_2 h (by omega) r (by omega) (by omega)
    have J := J1 (by omega) a2 (by rw [← e2]; exact b2)
    rw [e3]
    exact J
  · obtain ⟨e1, e2, e3⟩ := yr_2 h (by omega) r (by omega) (by omega)
    rw [e2]; exact w.2.2
theorem g2p (g_types g_methods g_place g_result g_linked g_active g_ticks g_code : Int32) (b_above b_ownField b_mType b_mName b_mLength b_bytes b_starts : Nat → Int32) (b_seen b_done : Nat → Int64) (b_heights b_local b_sure b_objType b_objField b_marked b_global b_fMethod b_fPc b_fHigh b_fLocal b_fEntry : Nat → Int32) {T : SY → Prop} {h r k1 k2 g : Nat} (h5 : h ≤ 5) (hr : r < 2 ^ h) (hk1 : k1 < 2) (hk2 : k2 < 2) (hg : g < 2) (J1 : 2 ≤ h → r / 2 ^ (h - 1) % 2 = k1 → r / 2 ^ (h - 2) % 2 = k2 → T (g_types, g_methods, g_place, g_result, g_linked, 0, nI (h - 2 + 1), nI (r % 2 ^ (h - 2) + g * 2 ^ (h - 2)), g_active, g_ticks, g_code, b_above, b_ownField, b_mType, b_mName, b_mLength, b_bytes, b_starts, b_seen, b_done, b_heights, b_local, b_sure, b_objType, b_objField, b_marked, b_global, b_fMethod, b_fPc, b_fHigh, b_fLocal, b_fEntry)) (J0 : ¬ (2 ≤ h ∧ r / 2 ^ (h - 1) % 2 = k1 ∧ r / 2 ^ (h - 2) % 2 = k2) → ∀ hi re, T (g_types, g_methods, g_place, g_result, g_linked, 1, hi, re, g_active, g_ticks, g_code, b_above, b_ownField, b_mType, b_mName, b_mLength, b_bytes, b_starts, b_seen, b_done, b_heights, b_local, b_sure, b_objType, b_objField, b_marked, b_global, b_fMethod, b_fPc, b_fHigh, b_fLocal, b_fEntry)) :
    wpY_need (fun u => match u with | (g_types1, g_methods1, g_place1, g_result1, g_linked1, g_bad1, g_high1, g_refs1, g_active1, g_ticks1, g_code1, b_above1, b_ownField1, b_mType1, b_mName1, b_mLength1, b_bytes1, b_starts1, b_seen1, b_done1, b_heights1, b_local1, b_sure1, b_objType1, b_objField1, b_marked1, b_global1, b_fMethod1, b_fPc1, b_fHigh1, b_fLocal1, b_fEntry1) => wpY_need (fun u => match u with | (g_types2, g_methods2, g_place2, g_result2, g_linked2, g_bad2, g_high2, g_refs2, g_active2, g_ticks2, g_code2, b_above2, b_ownField2, b_mType2, b_mName2, b_mLength2, b_bytes2, b_starts2, b_seen2, b_done2, b_heights2, b_local2, b_sure2, b_objType2, b_objField2, b_marked2, b_global2, b_fMethod2, b_fPc2, b_fHigh2, b_fLocal2, b_fEntry2) => wpY_push T (g_types2, g_methods2, g_place2, g_result2, g_linked2, g_bad2, g_high2, g_refs2, g_active2, g_ticks2, g_code2, b_above2, b_ownField2, b_mType2, b_mName2, b_mLength2, b_bytes2, b_starts2, b_seen2, b_done2, b_heights2, b_local2, b_sure2, b_objType2, b_objField2, b_marked2, b_global2, b_fMethod2, b_fPc2, b_fHigh2, b_fLocal2, b_fEntry2) (nI g)) (g_types1, g_methods1, g_place1, g_result1, g_linked1, g_bad1, g_high1, g_refs1, g_active1, g_ticks1, g_code1, b_above1, b_ownField1, b_mType1, b_mName1, b_mLength1, b_bytes1, b_starts1, b_seen1, b_done1, b_heights1, b_local1, b_sure1, b_objType1, b_objField1, b_marked1, b_global1, b_fMethod1, b_fPc1, b_fHigh1, b_fLocal1, b_fEntry1) (nI k2)) (g_types, g_methods, g_place, g_result, g_linked, 0, nI h, nI r, g_active, g_ticks, g_code, b_above, b_ownField, b_mType, b_mName, b_mLength, b_bytes, b_starts, b_seen, b_done, b_heights, b_local, b_sure, b_objType, b_objField, b_marked, b_global, b_fMethod, b_fPc, b_fHigh, b_fLocal, b_fEntry) (nI k1) := by
  have hp := wy_p5 h (by omega)
  exact g2 g_types g_methods g_place g_result g_linked g_active g_ticks g_code b_above b_ownField b_mType b_mName b_mLength b_bytes b_starts b_seen b_done b_heights b_local b_sure b_objType b_objField b_marked b_global b_fMethod b_fPc b_fHigh b_fLocal b_fEntry (T := fun u => match u with | (g_types2, g_methods2, g_place2, g_result2, g_linked2, g_bad2, g_high2, g_refs2, g_active2, g_ticks2, g_code2, b_above2, b_ownField2, b_mType2, b_mName2, b_mLength2, b_bytes2, b_starts2, b_seen2, b_done2, b_heights2, b_local2, b_sure2, b_objType2, b_objField2, b_marked2, b_global2, b_fMethod2, b_fPc2, b_fHigh2, b_fLocal2, b_fEntry2) => wpY_push T (g_types2, g_methods2, g_place2, g_result2, g_linked2, g_bad2, g_high2, g_refs2, g_active2, g_ticks2, g_code2, b_above2, b_ownField2, b_mType2, b_mName2, b_mLength2, b_bytes2, b_starts2, b_seen2, b_done2, b_heights2, b_local2, b_sure2, b_objType2, b_objField2, b_marked2, b_global2, b_fMethod2, b_fPc2, b_fHigh2, b_fLocal2, b_fEntry2) (nI g)) h5 hr hk1 hk2 (fun a1 a2 a3 => ev_ypush g_types g_methods g_place g_result g_linked g_active g_ticks g_code b_above b_ownField b_mType b_mName b_mLength b_bytes b_starts b_seen b_done b_heights b_local b_sure b_objType b_objField b_marked b_global b_fMethod b_fPc b_fHigh b_fLocal b_fEntry (by omega) (yr_3 h (by omega) r (by omega) a1) hg (fun _ => J1 a1 a2 a3) (fun z => absurd (by omega) z)) (fun a hi re => push_any g_types g_methods g_place g_result g_linked hi re g_active g_ticks g_code b_above b_ownField b_mType b_mName b_mLength b_bytes b_starts b_seen b_done b_heights b_local b_sure b_objType b_objField b_marked b_global b_fMethod b_fPc b_fHigh b_fLocal b_fEntry _ (fun hi re => J0 a hi re))
theorem g1 (g_types g_methods g_place g_result g_linked g_active g_ticks g_code : Int32) (b_above b_ownField b_mType b_mName b_mLength b_bytes b_starts : Nat → Int32) (b_seen b_done : Nat → Int64) (b_heights b_local b_sure b_objType b_objField b_marked b_global b_fMethod b_fPc b_fHigh b_fLocal b_fEntry : Nat → Int32) {T : SY → Prop} {h r k1 : Nat} (h5 : h ≤ 5) (hr : r < 2 ^ h) (hk1 : k1 < 2) (J1 : 1 ≤ h → r / 2 ^ (h - 1) % 2 = k1 → T (g_types, g_methods, g_place, g_result, g_linked, 0, nI (h - 1), nI (r % 2 ^ (h - 1)), g_active, g_ticks, g_code, b_above, b_ownField, b_mType, b_mName, b_mLength, b_bytes, b_starts, b_seen, b_done, b_heights, b_local, b_sure, b_objType, b_objField, b_marked, b_global, b_fMethod, b_fPc, b_fHigh, b_fLocal, b_fEntry)) (J0 : ¬ (1 ≤ h ∧ r / 2 ^ (h - 1) % 2 = k1) → ∀ hi re, T (g_types, g_methods, g_place, g_result, g_linked, 1, hi, re, g_active, g_ticks, g_code, b_above, b_ownField, b_mType, b_mName, b_mLength, b_bytes, b_starts, b_seen, b_done, b_heights, b_local, b_sure, b_objType, b_objField, b_marked, b_global, b_fMethod, b_fPc, b_fHigh, b_fLocal, b_fEntry)) :
    wpY_need T (g_types, g_methods, g_place, g_result, g_linked, 0, nI h, nI r, g_active, g_ticks, g_code, b_above, b_ownField, b_mType, b_mName, b_mLength, b_bytes, b_starts, b_seen, b_done, b_heights, b_local, b_sure, b_objType, b_objField, b_marked, b_global, b_fMethod, b_fPc, b_fHigh, b_fLocal, b_fEntry) (nI k1) := ev_need g_types g_methods g_place g_result g_linked g_active g_ticks g_code b_above b_ownField b_mType b_mName b_mLength b_bytes b_starts b_seen b_done b_heights b_local b_sure b_objType b_objField b_marked b_global b_fMethod b_fPc b_fHigh b_fLocal b_fEntry h5 hr hk1 J1 J0
theorem g1p (g_types g_methods g_place g_result g_linked g_active g_ticks g_code : Int32) (b_above b_ownField b_mType b_mName b_mLength b_bytes b_starts : Nat → Int32) (b_seen b_done : Nat → Int64) (b_heights b_local b_sure b_objType b_objField b_marked b_global b_fMethod b_fPc b_fHigh b_fLocal b_fEntry : Nat → Int32) {T : SY → Prop} {h r k1 g : Nat} (h5 : h ≤ 5) (hr : r < 2 ^ h) (hk1 : k1 < 2) (hg : g < 2) (J1 : 1 ≤ h → r / 2 ^ (h - 1) % 2 = k1 → T (g_types, g_methods, g_place, g_result, g_linked, 0, nI (h - 1 + 1), nI (r % 2 ^ (h - 1) + g * 2 ^ (h - 1)), g_active, g_ticks, g_code, b_above, b_ownField, b_mType, b_mName, b_mLength, b_bytes, b_starts, b_seen, b_done, b_heights, b_local, b_sure, b_objType, b_objField, b_marked, b_global, b_fMethod, b_fPc, b_fHigh, b_fLocal, b_fEntry)) (J0 : ¬ (1 ≤ h ∧ r / 2 ^ (h - 1) % 2 = k1) → ∀ hi re, T (g_types, g_methods, g_place, g_result, g_linked, 1, hi, re, g_active, g_ticks, g_code, b_above, b_ownField, b_mType, b_mName, b_mLength, b_bytes, b_starts, b_seen, b_done, b_heights, b_local, b_sure, b_objType, b_objField, b_marked, b_global, b_fMethod, b_fPc, b_fHigh, b_fLocal, b_fEntry)) :
    wpY_need (fun u => match u with | (g_types1, g_methods1, g_place1, g_result1, g_linked1, g_bad1, g_high1, g_refs1, g_active1, g_ticks1, g_code1, b_above1, b_ownField1, b_mType1, b_mName1, b_mLength1, b_bytes1, b_starts1, b_seen1, b_done1, b_heights1, b_local1, b_sure1, b_objType1, b_objField1, b_marked1, b_global1, b_fMethod1, b_fPc1, b_fHigh1, b_fLocal1, b_fEntry1) => wpY_push T (g_types1, g_methods1, g_place1, g_result1, g_linked1, g_bad1, g_high1, g_refs1, g_active1, g_ticks1, g_code1, b_above1, b_ownField1, b_mType1, b_mName1, b_mLength1, b_bytes1, b_starts1, b_seen1, b_done1, b_heights1, b_local1, b_sure1, b_objType1, b_objField1, b_marked1, b_global1, b_fMethod1, b_fPc1, b_fHigh1, b_fLocal1, b_fEntry1) (nI g)) (g_types, g_methods, g_place, g_result, g_linked, 0, nI h, nI r, g_active, g_ticks, g_code, b_above, b_ownField, b_mType, b_mName, b_mLength, b_bytes, b_starts, b_seen, b_done, b_heights, b_local, b_sure, b_objType, b_objField, b_marked, b_global, b_fMethod, b_fPc, b_fHigh, b_fLocal, b_fEntry) (nI k1) := by
  have hp := wy_p5 h (by omega)
  exact g1 g_types g_methods g_place g_result g_linked g_active g_ticks g_code b_above b_ownField b_mType b_mName b_mLength b_bytes b_starts b_seen b_done b_heights b_local b_sure b_objType b_objField b_marked b_global b_fMethod b_fPc b_fHigh b_fLocal b_fEntry (T := fun u => match u with | (g_types2, g_methods2, g_place2, g_result2, g_linked2, g_bad2, g_high2, g_refs2, g_active2, g_ticks2, g_code2, b_above2, b_ownField2, b_mType2, b_mName2, b_mLength2, b_bytes2, b_starts2, b_seen2, b_done2, b_heights2, b_local2, b_sure2, b_objType2, b_objField2, b_marked2, b_global2, b_fMethod2, b_fPc2, b_fHigh2, b_fLocal2, b_fEntry2) => wpY_push T (g_types2, g_methods2, g_place2, g_result2, g_linked2, g_bad2, g_high2, g_refs2, g_active2, g_ticks2, g_code2, b_above2, b_ownField2, b_mType2, b_mName2, b_mLength2, b_bytes2, b_starts2, b_seen2, b_done2, b_heights2, b_local2, b_sure2, b_objType2, b_objField2, b_marked2, b_global2, b_fMethod2, b_fPc2, b_fHigh2, b_fLocal2, b_fEntry2) (nI g)) h5 hr hk1 (fun a1 a2 => ev_ypush g_types g_methods g_place g_result g_linked g_active g_ticks g_code b_above b_ownField b_mType b_mName b_mLength b_bytes b_starts b_seen b_done b_heights b_local b_sure b_objType b_objField b_marked b_global b_fMethod b_fPc b_fHigh b_fLocal b_fEntry (by omega) (yr_1 h (by omega) r (by omega) a1) hg (fun _ => J1 a1 a2) (fun z => absurd (by omega) z)) (fun a hi re => push_any g_types g_methods g_place g_result g_linked hi re g_active g_ticks g_code b_above b_ownField b_mType b_mName b_mLength b_bytes b_starts b_seen b_done b_heights b_local b_sure b_objType b_objField b_marked b_global b_fMethod b_fPc b_fHigh b_fLocal b_fEntry _ (fun hi re => J0 a hi re))
/-! ===== the reaches, refused already ===== -/
theorem s333_bad (g_types g_methods g_place g_result g_linked g_high g_refs g_active g_ticks g_code : Int32) (b_above b_ownField b_mType b_mName b_mLength b_bytes b_starts : Nat → Int32) (b_seen b_done : Nat → Int64) (b_heights b_local b_sure b_objType b_objField b_marked b_global b_fMethod b_fPc b_fHigh b_fLocal b_fEntry : Nat → Int32) {post : SY → Prop} {x1 x2 x4 : Int32} {o : Nat} (ho : o < 256) (J : post (g_types, g_methods, g_place, g_result, g_linked, 1, g_high, g_refs, g_active, g_ticks, g_code, b_above, b_ownField, b_mType, b_mName, b_mLength, b_bytes, b_starts, b_seen, b_done, b_heights, b_local, b_sure, b_objType, b_objField, b_marked, b_global, b_fMethod, b_fPc, b_fHigh, b_fLocal, b_fEntry)) : wY_step_333 post x1 x2 (nI o) x4 g_types g_methods g_place g_result g_linked 1 g_high g_refs g_active g_ticks g_code b_above b_ownField b_mType b_mName b_mLength b_bytes b_starts b_seen b_done b_heights b_local b_sure b_objType b_objField b_marked b_global b_fMethod b_fPc b_fHigh b_fLocal b_fEntry := by
  have h352 : wY_step_352 post x1 x2 (nI o) g_types g_methods g_place g_result g_linked 1 g_high g_refs g_active g_ticks g_code b_above b_ownField b_mType b_mName b_mLength b_bytes b_starts b_seen b_done b_heights b_local b_sure b_objType b_objField b_marked b_global b_fMethod b_fPc b_fHigh b_fLocal b_fEntry := by
    unfold wY_step_352 wY_step_382
    refine ⟨fun _ => J, fun _ => ⟨fun _ => J, fun _ => ev_single ho ?_⟩⟩
    exact ⟨fun _ => reach_bad g_types g_methods g_place g_result g_linked g_high g_refs g_active g_ticks g_code b_above b_ownField b_mType b_mName b_mLength b_bytes b_starts b_seen b_done b_heights b_local b_sure b_objType b_objField b_marked b_global b_fMethod b_fPc b_fHigh b_fLocal b_fEntry _ _ J, fun _ => reach_bad g_types g_methods g_place g_result g_linked g_high g_refs g_active g_ticks g_code b_above b_ownField b_mType b_mName b_mLength b_bytes b_starts b_seen b_done b_heights b_local b_sure b_objType b_objField b_marked b_global b_fMethod b_fPc b_fHigh b_fLocal b_fEntry _ _ J⟩
  have h345 : wY_step_345 post x1 x2 (nI o) x4 g_types g_methods g_place g_result g_linked 1 g_high g_refs g_active g_ticks g_code b_above b_ownField b_mType b_mName b_mLength b_bytes b_starts b_seen b_done b_heights b_local b_sure b_objType b_objField b_marked b_global b_fMethod b_fPc b_fHigh b_fLocal b_fEntry := by
    unfold wY_step_345
    exact reach_bad g_types g_methods g_place g_result g_linked g_high g_refs g_active g_ticks g_code b_above b_ownField b_mType b_mName b_mLength b_bytes b_starts b_seen b_done b_heights b_local b_sure b_objType b_objField b_marked b_global b_fMethod b_fPc b_fHigh b_fLocal b_fEntry _ _ h352
  unfold wY_step_333
  exact ⟨fun _ => h345, fun _ => ⟨fun _ => h345, fun _ => h352⟩⟩
end
section
theorem kd_e2 {c : Nat} (hc : c < 3) : kd_in c 2 ↔ c = 0 := ⟨kd_2 c hc, fun e => by subst e; exact kd_i2⟩
theorem kd_e4 {c : Nat} (hc : c < 3) : kd_in c 4 ↔ c = 1 := ⟨kd_4 c hc, fun e => by subst e; exact kd_i4⟩
theorem kd_e6 : ∀ c, c < 2 → kd_in c 6 := by unfold kd_in; decide
theorem wc_3 {st h : Nat} (h1 : 1 ≤ h) : wy_c st (3 + h) = wy_r st / 2 ^ (h - 1) % 2 := by
  obtain ⟨j, rfl⟩ : ∃ j, h = j + 1 := ⟨h - 1, by omega⟩
  rw [show 3 + (j + 1) = 4 + j by omega, wy_c4, Nat.add_sub_cancel]
theorem wc_2 {st h : Nat} (h1 : 2 ≤ h) : wy_c st (2 + h) = wy_r st / 2 ^ (h - 2) % 2 := by
  obtain ⟨j, rfl⟩ : ∃ j, h = j + 2 := ⟨h - 2, by omega⟩
  rw [show 2 + (j + 2) = 4 + j by omega, wy_c4, Nat.add_sub_cancel]
theorem wok2 {o b nm st h k1 k2 : Nat} (ht : is_tk o = 2) (h1 : o ≠ 1) (e1 : ∀ c, c < 3 → (kd_in c (is_n1 o b nm) ↔ c = k1)) (e2 : ∀ c, c < 3 → (kd_in c (is_n2 o) ↔ c = k2)) (h5 : h ≤ 5) : wy_ok o b nm st h ↔ (2 ≤ h ∧ wy_r st / 2 ^ (h - 1) % 2 = k1 ∧ wy_r st / 2 ^ (h - 2) % 2 = k2) := by
  unfold wy_ok
  rw [ht]
  constructor
  · rintro ⟨a1, a2, a3, -, -⟩
    refine ⟨a1, ?_, ?_⟩
    · rw [← wc_3 (by omega)]; exact (e1 _ (wy_cB _ _)).mp (a2 (by omega))
    · rw [← wc_2 (by omega)]; exact (e2 _ (wy_cB _ _)).mp (a3 rfl)
  · rintro ⟨a1, a2, a3⟩
    refine ⟨a1, fun _ => ?_, fun _ => ?_, fun z => absurd z h1, fun _ => by omega⟩
    · rw [← wc_3 (by omega)] at a2; exact (e1 _ (wy_cB _ _)).mpr a2
    · rw [← wc_2 (by omega)] at a3; exact (e2 _ (wy_cB _ _)).mpr a3
theorem wok1 {o b nm st h k1 : Nat} (ht : is_tk o = 1) (h1 : o ≠ 1) (e1 : ∀ c, c < 3 → (kd_in c (is_n1 o b nm) ↔ c = k1)) (h5 : h ≤ 5) : wy_ok o b nm st h ↔ (1 ≤ h ∧ wy_r st / 2 ^ (h - 1) % 2 = k1) := by
  unfold wy_ok
  rw [ht]
  constructor
  · rintro ⟨a1, a2, -, -, -⟩
    refine ⟨a1, ?_⟩
    rw [← wc_3 (by omega)]; exact (e1 _ (wy_cB _ _)).mp (a2 (by omega))
  · rintro ⟨a1, a2⟩
    refine ⟨a1, fun _ => ?_, fun z => absurd z (by omega), fun z => absurd z h1, fun _ => by omega⟩
    rw [← wc_3 (by omega)] at a2; exact (e1 _ (wy_cB _ _)).mpr a2
theorem wok1v {o b nm st h : Nat} (ht : is_tk o = 1) (h1 : o ≠ 1) (e1 : is_n1 o b nm = 6) (h5 : h ≤ 5) : wy_ok o b nm st h ↔ 1 ≤ h := by
  unfold wy_ok
  rw [ht, e1]
  constructor
  · exact fun w => w.1
  · intro a1
    exact ⟨a1, fun _ => kd_e6 _ (wy_cB2 _ _ (by omega)), fun z => absurd z (by omega), fun z => absurd z h1, fun _ => by omega⟩
theorem wok0 {o b nm st h : Nat} (ht : is_tk o = 0) (h1 : o ≠ 1) (hg : is_gv o = true) : wy_ok o b nm st h ↔ h < 5 := by
  unfold wy_ok
  rw [ht]
  constructor
  · exact fun w => w.2.2.2.2 hg
  · intro a
    exact ⟨by omega, fun z => absurd z (by omega), fun z => absurd z (by omega), fun z => absurd z h1, fun _ => a⟩
theorem nl_ne {o b st h s : Nat} (h2 : o ≠ 2) : wy_nl o b st h s = wy_c st s := if_neg (fun w => h2 w.1)
theorem yr_m : ∀ h, h < 6 → ∀ r, r < 2 ^ h → r % 2 ^ h = r := by decide +kernel
theorem gk_a1 : ∀ c, c < 2 → (nI c &&& 1) = nI c := by decide
theorem sb_333 (g_types g_methods g_place g_result g_linked g_high g_refs g_active g_ticks g_code : Int32) (b_above b_ownField b_mType b_mName b_mLength b_bytes b_starts : Nat → Int32) (b_seen b_done : Nat → Int64) (b_heights b_local b_sure b_objType b_objField b_marked b_global b_fMethod b_fPc b_fHigh b_fLocal b_fEntry : Nat → Int32) {post : SY → Prop} {m p o b : Nat} (ho : o < 256) (hm : m < 8) (hb4 : o = 1 ∨ o = 2 → b < 4) (J : ∀ (hi re : Int32) (lo : Nat → Int32), post (g_types, g_methods, g_place, g_result, g_linked, 1, hi, re, g_active, g_ticks, g_code, b_above, b_ownField, b_mType, b_mName, b_mLength, b_bytes, b_starts, b_seen, b_done, b_heights, lo, b_sure, b_objType, b_objField, b_marked, b_global, b_fMethod, b_fPc, b_fHigh, b_fLocal, b_fEntry)) : wY_step_333 post (nI m) (nI p) (nI o) (nI b) g_types g_methods g_place g_result g_linked 1 g_high g_refs g_active g_ticks g_code b_above b_ownField b_mType b_mName b_mLength b_bytes b_starts b_seen b_done b_heights b_local b_sure b_objType b_objField b_marked b_global b_fMethod b_fPc b_fHigh b_fLocal b_fEntry := s333_bad g_types g_methods g_place g_result g_linked g_high g_refs g_active g_ticks g_code b_above b_ownField b_mType b_mName b_mLength b_bytes b_starts b_seen b_done b_heights b_local b_sure b_objType b_objField b_marked b_global b_fMethod b_fPc b_fHigh b_fLocal b_fEntry ho (J _ _ _)
theorem sb_250 (g_types g_methods g_place g_result g_linked g_high g_refs g_active g_ticks g_code : Int32) (b_above b_ownField b_mType b_mName b_mLength b_bytes b_starts : Nat → Int32) (b_seen b_done : Nat → Int64) (b_heights b_local b_sure b_objType b_objField b_marked b_global b_fMethod b_fPc b_fHigh b_fLocal b_fEntry : Nat → Int32) {post : SY → Prop} {m p o b : Nat} (ho : o < 256) (hm : m < 8) (hb4 : o = 1 ∨ o = 2 → b < 4) (J : ∀ (hi re : Int32) (lo : Nat → Int32), post (g_types, g_methods, g_place, g_result, g_linked, 1, hi, re, g_active, g_ticks, g_code, b_above, b_ownField, b_mType, b_mName, b_mLength, b_bytes, b_starts, b_seen, b_done, b_heights, lo, b_sure, b_objType, b_objField, b_marked, b_global, b_fMethod, b_fPc, b_fHigh, b_fLocal, b_fEntry)) : wY_step_250 post (nI m) (nI p) (nI o) (nI b) g_types g_methods g_place g_result g_linked 1 g_high g_refs g_active g_ticks g_code b_above b_ownField b_mType b_mName b_mLength b_bytes b_starts b_seen b_done b_heights b_local b_sure b_objType b_objField b_marked b_global b_fMethod b_fPc b_fHigh b_fLocal b_fEntry := by
  unfold wY_step_250
  exact push_any g_types g_methods g_place g_result g_linked g_high g_refs g_active g_ticks g_code b_above b_ownField b_mType b_mName b_mLength b_bytes b_starts b_seen b_done b_heights b_local b_sure b_objType b_objField b_marked b_global b_fMethod b_fPc b_fHigh b_fLocal b_fEntry _ (fun hi re => sb_333 g_types g_methods g_place g_result g_linked hi re g_active g_ticks g_code b_above b_ownField b_mType b_mName b_mLength b_bytes b_starts b_seen b_done b_heights b_local b_sure b_objType b_objField b_marked b_global b_fMethod b_fPc b_fHigh b_fLocal b_fEntry ho hm hb4 J)
theorem sb_297 (g_types g_methods g_place g_result g_linked g_high g_refs g_active g_ticks g_code : Int32) (b_above b_ownField b_mType b_mName b_mLength b_bytes b_starts : Nat → Int32) (b_seen b_done : Nat → Int64) (b_heights b_local b_sure b_objType b_objField b_marked b_global b_fMethod b_fPc b_fHigh b_fLocal b_fEntry : Nat → Int32) {post : SY → Prop} {m p o b : Nat} (ho : o < 256) (hm : m < 8) (hb4 : o = 1 ∨ o = 2 → b < 4) (J : ∀ (hi re : Int32) (lo : Nat → Int32), post (g_types, g_methods, g_place, g_result, g_linked, 1, hi, re, g_active, g_ticks, g_code, b_above, b_ownField, b_mType, b_mName, b_mLength, b_bytes, b_starts, b_seen, b_done, b_heights, lo, b_sure, b_objType, b_objField, b_marked, b_global, b_fMethod, b_fPc, b_fHigh, b_fLocal, b_fEntry)) : wY_step_297 post (nI m) (nI p) (nI o) (nI b) g_types g_methods g_place g_result g_linked 1 g_high g_refs g_active g_ticks g_code b_above b_ownField b_mType b_mName b_mLength b_bytes b_starts b_seen b_done b_heights b_local b_sure b_objType b_objField b_marked b_global b_fMethod b_fPc b_fHigh b_fLocal b_fEntry := by
  unfold wY_step_297
  exact push_any g_types g_methods g_place g_result g_linked g_high g_refs g_active g_ticks g_code b_above b_ownField b_mType b_mName b_mLength b_bytes b_starts b_seen b_done b_heights b_local b_sure b_objType b_objField b_marked b_global b_fMethod b_fPc b_fHigh b_fLocal b_fEntry _ (fun hi re => sb_333 g_types g_methods g_place g_result g_linked hi re g_active g_ticks g_code b_above b_ownField b_mType b_mName b_mLength b_bytes b_starts b_seen b_done b_heights b_local b_sure b_objType b_objField b_marked b_global b_fMethod b_fPc b_fHigh b_fLocal b_fEntry ho hm hb4 J)
theorem sb_330 (g_types g_methods g_place g_result g_linked g_high g_refs g_active g_ticks g_code : Int32) (b_above b_ownField b_mType b_mName b_mLength b_bytes b_starts : Nat → Int32) (b_seen b_done : Nat → Int64) (b_heights b_local b_sure b_objType b_objField b_marked b_global b_fMethod b_fPc b_fHigh b_fLocal b_fEntry : Nat → Int32) {post : SY → Prop} {m p o b : Nat} (ho : o < 256) (hm : m < 8) (hb4 : o = 1 ∨ o = 2 → b < 4) (z0 : Int32) (J : ∀ (hi re : Int32) (lo : Nat → Int32), post (g_types, g_methods, g_place, g_result, g_linked, 1, hi, re, g_active, g_ticks, g_code, b_above, b_ownField, b_mType, b_mName, b_mLength, b_bytes, b_starts, b_seen, b_done, b_heights, lo, b_sure, b_objType, b_objField, b_marked, b_global, b_fMethod, b_fPc, b_fHigh, b_fLocal, b_fEntry)) : wY_step_330 post (nI m) (nI p) (nI o) (nI b) z0 g_types g_methods g_place g_result g_linked 1 g_high g_refs g_active g_ticks g_code b_above b_ownField b_mType b_mName b_mLength b_bytes b_starts b_seen b_done b_heights b_local b_sure b_objType b_objField b_marked b_global b_fMethod b_fPc b_fHigh b_fLocal b_fEntry := by
  unfold wY_step_330
  exact push_any g_types g_methods g_place g_result g_linked g_high g_refs g_active g_ticks g_code b_above b_ownField b_mType b_mName b_mLength b_bytes b_starts b_seen b_done b_heights b_local b_sure b_objType b_objField b_marked b_global b_fMethod b_fPc b_fHigh b_fLocal b_fEntry _ (fun hi re => sb_333 g_types g_methods g_place g_result g_linked hi re g_active g_ticks g_code b_above b_ownField b_mType b_mName b_mLength b_bytes b_starts b_seen b_done b_heights b_local b_sure b_objType b_objField b_marked b_global b_fMethod b_fPc b_fHigh b_fLocal b_fEntry ho hm hb4 J)
theorem sb_317 (g_types g_methods g_place g_result g_linked g_high g_refs g_active g_ticks g_code : Int32) (b_above b_ownField b_mType b_mName b_mLength b_bytes b_starts : Nat → Int32) (b_seen b_done : Nat → Int64) (b_heights b_local b_sure b_objType b_objField b_marked b_global b_fMethod b_fPc b_fHigh b_fLocal b_fEntry : Nat → Int32) {post : SY → Prop} {m p o b : Nat} (ho : o < 256) (hm : m < 8) (hb4 : o = 1 ∨ o = 2 → b < 4) (J : ∀ (hi re : Int32) (lo : Nat → Int32), post (g_types, g_methods, g_place, g_result, g_linked, 1, hi, re, g_active, g_ticks, g_code, b_above, b_ownField, b_mType, b_mName, b_mLength, b_bytes, b_starts, b_seen, b_done, b_heights, lo, b_sure, b_objType, b_objField, b_marked, b_global, b_fMethod, b_fPc, b_fHigh, b_fLocal, b_fEntry)) : wY_step_317 post (nI m) (nI p) (nI o) (nI b) g_types g_methods g_place g_result g_linked 1 g_high g_refs g_active g_ticks g_code b_above b_ownField b_mType b_mName b_mLength b_bytes b_starts b_seen b_done b_heights b_local b_sure b_objType b_objField b_marked b_global b_fMethod b_fPc b_fHigh b_fLocal b_fEntry := by
  unfold wY_step_317
  exact ⟨fun _ => sb_330 g_types g_methods g_place g_result g_linked g_high g_refs g_active g_ticks g_code b_above b_ownField b_mType b_mName b_mLength b_bytes b_starts b_seen b_done b_heights b_local b_sure b_objType b_objField b_marked b_global b_fMethod b_fPc b_fHigh b_fLocal b_fEntry ho hm hb4 _ J, fun _ => sb_330 g_types g_methods g_place g_result g_linked g_high g_refs g_active g_ticks g_code b_above b_ownField b_mType b_mName b_mLength b_bytes b_starts b_seen b_done b_heights b_local b_sure b_objType b_objField b_marked b_global b_fMethod b_fPc b_fHigh b_fLocal b_fEntry ho hm hb4 _ J⟩
theorem sb_244 (g_types g_methods g_place g_result g_linked g_high g_refs g_active g_ticks g_code : Int32) (b_above b_ownField b_mType b_mName b_mLength b_bytes b_starts : Nat → Int32) (b_seen b_done : Nat → Int64) (b_heights b_local b_sure b_objType b_objField b_marked b_global b_fMethod b_fPc b_fHigh b_fLocal b_fEntry : Nat → Int32) {post : SY → Prop} {m p o b : Nat} (ho : o < 256) (hm : m < 8) (hb4 : o = 1 ∨ o = 2 → b < 4) (J : ∀ (hi re : Int32) (lo : Nat → Int32), post (g_types, g_methods, g_place, g_result, g_linked, 1, hi, re, g_active, g_ticks, g_code, b_above, b_ownField, b_mType, b_mName, b_mLength, b_bytes, b_starts, b_seen, b_done, b_heights, lo, b_sure, b_objType, b_objField, b_marked, b_global, b_fMethod, b_fPc, b_fHigh, b_fLocal, b_fEntry)) : wY_step_244 post (nI m) (nI p) (nI o) (nI b) g_types g_methods g_place g_result g_linked 1 g_high g_refs g_active g_ticks g_code b_above b_ownField b_mType b_mName b_mLength b_bytes b_starts b_seen b_done b_heights b_local b_sure b_objType b_objField b_marked b_global b_fMethod b_fPc b_fHigh b_fLocal b_fEntry := by
  unfold wY_step_244
  refine ⟨fun _ => sb_250 g_types g_methods g_place g_result g_linked g_high g_refs g_active g_ticks g_code b_above b_ownField b_mType b_mName b_mLength b_bytes b_starts b_seen b_done b_heights b_local b_sure b_objType b_objField b_marked b_global b_fMethod b_fPc b_fHigh b_fLocal b_fEntry ho hm hb4 J, fun _ => ⟨fun z => ⟨?_, push_any g_types g_methods g_place g_result g_linked g_high g_refs g_active g_ticks g_code b_above b_ownField b_mType b_mName b_mLength b_bytes b_starts b_seen b_done b_heights b_local b_sure b_objType b_objField b_marked b_global b_fMethod b_fPc b_fHigh b_fLocal b_fEntry _ (fun hi re => sb_333 g_types g_methods g_place g_result g_linked hi re g_active g_ticks g_code b_above b_ownField b_mType b_mName b_mLength b_bytes b_starts b_seen b_done b_heights b_local b_sure b_objType b_objField b_marked b_global b_fMethod b_fPc b_fHigh b_fLocal b_fEntry ho hm hb4 J)⟩, fun _ => ⟨fun _ => sb_297 g_types g_methods g_place g_result g_linked g_high g_refs g_active g_ticks g_code b_above b_ownField b_mType b_mName b_mLength b_bytes b_starts b_seen b_done b_heights b_local b_sure b_objType b_objField b_marked b_global b_fMethod b_fPc b_fHigh b_fLocal b_fEntry ho hm hb4 J, fun _ => ⟨fun _ => sb_297 g_types g_methods g_place g_result g_linked g_high g_refs g_active g_ticks g_code b_above b_ownField b_mType b_mName b_mLength b_bytes b_starts b_seen b_done b_heights b_local b_sure b_objType b_objField b_marked b_global b_fMethod b_fPc b_fHigh b_fLocal b_fEntry ho hm hb4 J, fun _ => ⟨fun _ => sb_297 g_types g_methods g_place g_result g_linked g_high g_refs g_active g_ticks g_code b_above b_ownField b_mType b_mName b_mLength b_bytes b_starts b_seen b_done b_heights b_local b_sure b_objType b_objField b_marked b_global b_fMethod b_fPc b_fHigh b_fLocal b_fEntry ho hm hb4 J, fun _ => ⟨fun _ => sb_317 g_types g_methods g_place g_result g_linked g_high g_refs g_active g_ticks g_code b_above b_ownField b_mType b_mName b_mLength b_bytes b_starts b_seen b_done b_heights b_local b_sure b_objType b_objField b_marked b_global b_fMethod b_fPc b_fHigh b_fLocal b_fEntry ho hm hb4 J, fun _ => ⟨fun _ => sb_317 g_types g_methods g_place g_result g_linked g_high g_refs g_active g_ticks g_code b_above b_ownField b_mType b_mName b_mLength b_bytes b_starts b_seen b_done b_heights b_local b_sure b_objType b_objField b_marked b_global b_fMethod b_fPc b_fHigh b_fLocal b_fEntry ho hm hb4 J, fun _ => sb_333 g_types g_methods g_place g_result g_linked g_high g_refs g_active g_ticks g_code b_above b_ownField b_mType b_mName b_mLength b_bytes b_starts b_seen b_done b_heights b_local b_sure b_objType b_objField b_marked b_global b_fMethod b_fPc b_fHigh b_fLocal b_fEntry ho hm hb4 J⟩⟩⟩⟩⟩⟩⟩
  rw [gm_eqL (by omega) (by omega)] at z
  have := hb4 (Or.inl z)
  exact vp_in_nI this (by omega)
theorem sb_229 (g_types g_methods g_place g_result g_linked g_high g_refs g_active g_ticks g_code : Int32) (b_above b_ownField b_mType b_mName b_mLength b_bytes b_starts : Nat → Int32) (b_seen b_done : Nat → Int64) (b_heights b_local b_sure b_objType b_objField b_marked b_global b_fMethod b_fPc b_fHigh b_fLocal b_fEntry : Nat → Int32) {post : SY → Prop} {m p o b : Nat} (ho : o < 256) (hm : m < 8) (hb4 : o = 1 ∨ o = 2 → b < 4) (J : ∀ (hi re : Int32) (lo : Nat → Int32), post (g_types, g_methods, g_place, g_result, g_linked, 1, hi, re, g_active, g_ticks, g_code, b_above, b_ownField, b_mType, b_mName, b_mLength, b_bytes, b_starts, b_seen, b_done, b_heights, lo, b_sure, b_objType, b_objField, b_marked, b_global, b_fMethod, b_fPc, b_fHigh, b_fLocal, b_fEntry)) : wY_step_229 post (nI m) (nI p) (nI o) (nI b) g_types g_methods g_place g_result g_linked 1 g_high g_refs g_active g_ticks g_code b_above b_ownField b_mType b_mName b_mLength b_bytes b_starts b_seen b_done b_heights b_local b_sure b_objType b_objField b_marked b_global b_fMethod b_fPc b_fHigh b_fLocal b_fEntry := by
  unfold wY_step_229
  exact ⟨fun _ => sb_250 g_types g_methods g_place g_result g_linked g_high g_refs g_active g_ticks g_code b_above b_ownField b_mType b_mName b_mLength b_bytes b_starts b_seen b_done b_heights b_local b_sure b_objType b_objField b_marked b_global b_fMethod b_fPc b_fHigh b_fLocal b_fEntry ho hm hb4 J, fun _ => ⟨fun _ => sb_244 g_types g_methods g_place g_result g_linked g_high g_refs g_active g_ticks g_code b_above b_ownField b_mType b_mName b_mLength b_bytes b_starts b_seen b_done b_heights b_local b_sure b_objType b_objField b_marked b_global b_fMethod b_fPc b_fHigh b_fLocal b_fEntry ho hm hb4 J, fun _ => ⟨fun _ => sb_250 g_types g_methods g_place g_result g_linked g_high g_refs g_active g_ticks g_code b_above b_ownField b_mType b_mName b_mLength b_bytes b_starts b_seen b_done b_heights b_local b_sure b_objType b_objField b_marked b_global b_fMethod b_fPc b_fHigh b_fLocal b_fEntry ho hm hb4 J, fun _ => sb_244 g_types g_methods g_place g_result g_linked g_high g_refs g_active g_ticks g_code b_above b_ownField b_mType b_mName b_mLength b_bytes b_starts b_seen b_done b_heights b_local b_sure b_objType b_objField b_marked b_global b_fMethod b_fPc b_fHigh b_fLocal b_fEntry ho hm hb4 J⟩⟩⟩
theorem sb_226 (g_types g_methods g_place g_result g_linked g_high g_refs g_active g_ticks g_code : Int32) (b_above b_ownField b_mType b_mName b_mLength b_bytes b_starts : Nat → Int32) (b_seen b_done : Nat → Int64) (b_heights b_local b_sure b_objType b_objField b_marked b_global b_fMethod b_fPc b_fHigh b_fLocal b_fEntry : Nat → Int32) {post : SY → Prop} {m p o b : Nat} (ho : o < 256) (hm : m < 8) (hb4 : o = 1 ∨ o = 2 → b < 4) (z0 : Int32) (J : ∀ (hi re : Int32) (lo : Nat → Int32), post (g_types, g_methods, g_place, g_result, g_linked, 1, hi, re, g_active, g_ticks, g_code, b_above, b_ownField, b_mType, b_mName, b_mLength, b_bytes, b_starts, b_seen, b_done, b_heights, lo, b_sure, b_objType, b_objField, b_marked, b_global, b_fMethod, b_fPc, b_fHigh, b_fLocal, b_fEntry)) : wY_step_226 post (nI m) (nI p) (nI o) (nI b) z0 g_types g_methods g_place g_result g_linked 1 g_high g_refs g_active g_ticks g_code b_above b_ownField b_mType b_mName b_mLength b_bytes b_starts b_seen b_done b_heights b_local b_sure b_objType b_objField b_marked b_global b_fMethod b_fPc b_fHigh b_fLocal b_fEntry := by
  unfold wY_step_226
  exact need_any g_types g_methods g_place g_result g_linked g_high g_refs g_active g_ticks g_code b_above b_ownField b_mType b_mName b_mLength b_bytes b_starts b_seen b_done b_heights b_local b_sure b_objType b_objField b_marked b_global b_fMethod b_fPc b_fHigh b_fLocal b_fEntry _ (fun hi re => sb_229 g_types g_methods g_place g_result g_linked hi re g_active g_ticks g_code b_above b_ownField b_mType b_mName b_mLength b_bytes b_starts b_seen b_done b_heights b_local b_sure b_objType b_objField b_marked b_global b_fMethod b_fPc b_fHigh b_fLocal b_fEntry ho hm hb4 J)
theorem sb_203 (g_types g_methods g_place g_result g_linked g_high g_refs g_active g_ticks g_code : Int32) (b_above b_ownField b_mType b_mName b_mLength b_bytes b_starts : Nat → Int32) (b_seen b_done : Nat → Int64) (b_heights b_local b_sure b_objType b_objField b_marked b_global b_fMethod b_fPc b_fHigh b_fLocal b_fEntry : Nat → Int32) {post : SY → Prop} {m p o b : Nat} (ho : o < 256) (hm : m < 8) (hb4 : o = 1 ∨ o = 2 → b < 4) (J : ∀ (hi re : Int32) (lo : Nat → Int32), post (g_types, g_methods, g_place, g_result, g_linked, 1, hi, re, g_active, g_ticks, g_code, b_above, b_ownField, b_mType, b_mName, b_mLength, b_bytes, b_starts, b_seen, b_done, b_heights, lo, b_sure, b_objType, b_objField, b_marked, b_global, b_fMethod, b_fPc, b_fHigh, b_fLocal, b_fEntry)) : wY_step_203 post (nI m) (nI p) (nI o) (nI b) g_types g_methods g_place g_result g_linked 1 g_high g_refs g_active g_ticks g_code b_above b_ownField b_mType b_mName b_mLength b_bytes b_starts b_seen b_done b_heights b_local b_sure b_objType b_objField b_marked b_global b_fMethod b_fPc b_fHigh b_fLocal b_fEntry := by
  unfold wY_step_203
  exact ⟨fun _ => ⟨vp_in_nI hm (by omega), fun _ => sb_226 g_types g_methods g_place g_result g_linked g_high g_refs g_active g_ticks g_code b_above b_ownField b_mType b_mName b_mLength b_bytes b_starts b_seen b_done b_heights b_local b_sure b_objType b_objField b_marked b_global b_fMethod b_fPc b_fHigh b_fLocal b_fEntry ho hm hb4 _ J, fun _ => sb_226 g_types g_methods g_place g_result g_linked g_high g_refs g_active g_ticks g_code b_above b_ownField b_mType b_mName b_mLength b_bytes b_starts b_seen b_done b_heights b_local b_sure b_objType b_objField b_marked b_global b_fMethod b_fPc b_fHigh b_fLocal b_fEntry ho hm hb4 _ J⟩, fun _ => sb_229 g_types g_methods g_place g_result g_linked g_high g_refs g_active g_ticks g_code b_above b_ownField b_mType b_mName b_mLength b_bytes b_starts b_seen b_done b_heights b_local b_sure b_objType b_objField b_marked b_global b_fMethod b_fPc b_fHigh b_fLocal b_fEntry ho hm hb4 J⟩
theorem sb_198 (g_types g_methods g_place g_result g_linked g_high g_refs g_active g_ticks g_code : Int32) (b_above b_ownField b_mType b_mName b_mLength b_bytes b_starts : Nat → Int32) (b_seen b_done : Nat → Int64) (b_heights b_local b_sure b_objType b_objField b_marked b_global b_fMethod b_fPc b_fHigh b_fLocal b_fEntry : Nat → Int32) {post : SY → Prop} {m p o b : Nat} (ho : o < 256) (hm : m < 8) (hb4 : o = 1 ∨ o = 2 → b < 4) (J : ∀ (hi re : Int32) (lo : Nat → Int32), post (g_types, g_methods, g_place, g_result, g_linked, 1, hi, re, g_active, g_ticks, g_code, b_above, b_ownField, b_mType, b_mName, b_mLength, b_bytes, b_starts, b_seen, b_done, b_heights, lo, b_sure, b_objType, b_objField, b_marked, b_global, b_fMethod, b_fPc, b_fHigh, b_fLocal, b_fEntry)) : wY_step_198 post (nI m) (nI p) (nI o) (nI b) g_types g_methods g_place g_result g_linked 1 g_high g_refs g_active g_ticks g_code b_above b_ownField b_mType b_mName b_mLength b_bytes b_starts b_seen b_done b_heights b_local b_sure b_objType b_objField b_marked b_global b_fMethod b_fPc b_fHigh b_fLocal b_fEntry := by
  unfold wY_step_198
  exact need_any g_types g_methods g_place g_result g_linked g_high g_refs g_active g_ticks g_code b_above b_ownField b_mType b_mName b_mLength b_bytes b_starts b_seen b_done b_heights b_local b_sure b_objType b_objField b_marked b_global b_fMethod b_fPc b_fHigh b_fLocal b_fEntry _ (fun hi re => sb_203 g_types g_methods g_place g_result g_linked hi re g_active g_ticks g_code b_above b_ownField b_mType b_mName b_mLength b_bytes b_starts b_seen b_done b_heights b_local b_sure b_objType b_objField b_marked b_global b_fMethod b_fPc b_fHigh b_fLocal b_fEntry ho hm hb4 J)
theorem sb_192 (g_types g_methods g_place g_result g_linked g_high g_refs g_active g_ticks g_code : Int32) (b_above b_ownField b_mType b_mName b_mLength b_bytes b_starts : Nat → Int32) (b_seen b_done : Nat → Int64) (b_heights b_local b_sure b_objType b_objField b_marked b_global b_fMethod b_fPc b_fHigh b_fLocal b_fEntry : Nat → Int32) {post : SY → Prop} {m p o b : Nat} (ho : o < 256) (hm : m < 8) (hb4 : o = 1 ∨ o = 2 → b < 4) (J : ∀ (hi re : Int32) (lo : Nat → Int32), post (g_types, g_methods, g_place, g_result, g_linked, 1, hi, re, g_active, g_ticks, g_code, b_above, b_ownField, b_mType, b_mName, b_mLength, b_bytes, b_starts, b_seen, b_done, b_heights, lo, b_sure, b_objType, b_objField, b_marked, b_global, b_fMethod, b_fPc, b_fHigh, b_fLocal, b_fEntry)) : wY_step_192 post (nI m) (nI p) (nI o) (nI b) g_types g_methods g_place g_result g_linked 1 g_high g_refs g_active g_ticks g_code b_above b_ownField b_mType b_mName b_mLength b_bytes b_starts b_seen b_done b_heights b_local b_sure b_objType b_objField b_marked b_global b_fMethod b_fPc b_fHigh b_fLocal b_fEntry := by
  unfold wY_step_192
  exact ⟨fun _ => sb_198 g_types g_methods g_place g_result g_linked g_high g_refs g_active g_ticks g_code b_above b_ownField b_mType b_mName b_mLength b_bytes b_starts b_seen b_done b_heights b_local b_sure b_objType b_objField b_marked b_global b_fMethod b_fPc b_fHigh b_fLocal b_fEntry ho hm hb4 J, fun _ => sb_203 g_types g_methods g_place g_result g_linked g_high g_refs g_active g_ticks g_code b_above b_ownField b_mType b_mName b_mLength b_bytes b_starts b_seen b_done b_heights b_local b_sure b_objType b_objField b_marked b_global b_fMethod b_fPc b_fHigh b_fLocal b_fEntry ho hm hb4 J⟩
theorem sb_180 (g_types g_methods g_place g_result g_linked g_high g_refs g_active g_ticks g_code : Int32) (b_above b_ownField b_mType b_mName b_mLength b_bytes b_starts : Nat → Int32) (b_seen b_done : Nat → Int64) (b_heights b_local b_sure b_objType b_objField b_marked b_global b_fMethod b_fPc b_fHigh b_fLocal b_fEntry : Nat → Int32) {post : SY → Prop} {m p o b : Nat} (ho : o < 256) (hm : m < 8) (hb4 : o = 1 ∨ o = 2 → b < 4) (J : ∀ (hi re : Int32) (lo : Nat → Int32), post (g_types, g_methods, g_place, g_result, g_linked, 1, hi, re, g_active, g_ticks, g_code, b_above, b_ownField, b_mType, b_mName, b_mLength, b_bytes, b_starts, b_seen, b_done, b_heights, lo, b_sure, b_objType, b_objField, b_marked, b_global, b_fMethod, b_fPc, b_fHigh, b_fLocal, b_fEntry)) : wY_step_180 post (nI m) (nI p) (nI o) (nI b) g_types g_methods g_place g_result g_linked 1 g_high g_refs g_active g_ticks g_code b_above b_ownField b_mType b_mName b_mLength b_bytes b_starts b_seen b_done b_heights b_local b_sure b_objType b_objField b_marked b_global b_fMethod b_fPc b_fHigh b_fLocal b_fEntry := by
  unfold wY_step_180
  exact ⟨fun _ => sb_192 g_types g_methods g_place g_result g_linked g_high g_refs g_active g_ticks g_code b_above b_ownField b_mType b_mName b_mLength b_bytes b_starts b_seen b_done b_heights b_local b_sure b_objType b_objField b_marked b_global b_fMethod b_fPc b_fHigh b_fLocal b_fEntry ho hm hb4 J, fun _ => ⟨fun _ => sb_198 g_types g_methods g_place g_result g_linked g_high g_refs g_active g_ticks g_code b_above b_ownField b_mType b_mName b_mLength b_bytes b_starts b_seen b_done b_heights b_local b_sure b_objType b_objField b_marked b_global b_fMethod b_fPc b_fHigh b_fLocal b_fEntry ho hm hb4 J, fun _ => sb_192 g_types g_methods g_place g_result g_linked g_high g_refs g_active g_ticks g_code b_above b_ownField b_mType b_mName b_mLength b_bytes b_starts b_seen b_done b_heights b_local b_sure b_objType b_objField b_marked b_global b_fMethod b_fPc b_fHigh b_fLocal b_fEntry ho hm hb4 J⟩⟩
theorem sb_177 (g_types g_methods g_place g_result g_linked g_high g_refs g_active g_ticks g_code : Int32) (b_above b_ownField b_mType b_mName b_mLength b_bytes b_starts : Nat → Int32) (b_seen b_done : Nat → Int64) (b_heights b_local b_sure b_objType b_objField b_marked b_global b_fMethod b_fPc b_fHigh b_fLocal b_fEntry : Nat → Int32) {post : SY → Prop} {m p o b : Nat} (ho : o < 256) (hm : m < 8) (hb4 : o = 1 ∨ o = 2 → b < 4) (z0 : Int32) (J : ∀ (hi re : Int32) (lo : Nat → Int32), post (g_types, g_methods, g_place, g_result, g_linked, 1, hi, re, g_active, g_ticks, g_code, b_above, b_ownField, b_mType, b_mName, b_mLength, b_bytes, b_starts, b_seen, b_done, b_heights, lo, b_sure, b_objType, b_objField, b_marked, b_global, b_fMethod, b_fPc, b_fHigh, b_fLocal, b_fEntry)) : wY_step_177 post (nI m) (nI p) (nI o) (nI b) z0 g_types g_methods g_place g_result g_linked 1 g_high g_refs g_active g_ticks g_code b_above b_ownField b_mType b_mName b_mLength b_bytes b_starts b_seen b_done b_heights b_local b_sure b_objType b_objField b_marked b_global b_fMethod b_fPc b_fHigh b_fLocal b_fEntry := by
  unfold wY_step_177
  exact need_any g_types g_methods g_place g_result g_linked g_high g_refs g_active g_ticks g_code b_above b_ownField b_mType b_mName b_mLength b_bytes b_starts b_seen b_done b_heights b_local b_sure b_objType b_objField b_marked b_global b_fMethod b_fPc b_fHigh b_fLocal b_fEntry _ (fun hi re => sb_180 g_types g_methods g_place g_result g_linked hi re g_active g_ticks g_code b_above b_ownField b_mType b_mName b_mLength b_bytes b_starts b_seen b_done b_heights b_local b_sure b_objType b_objField b_marked b_global b_fMethod b_fPc b_fHigh b_fLocal b_fEntry ho hm hb4 J)
theorem sb_158 (g_types g_methods g_place g_result g_linked g_high g_refs g_active g_ticks g_code : Int32) (b_above b_ownField b_mType b_mName b_mLength b_bytes b_starts : Nat → Int32) (b_seen b_done : Nat → Int64) (b_heights b_local b_sure b_objType b_objField b_marked b_global b_fMethod b_fPc b_fHigh b_fLocal b_fEntry : Nat → Int32) {post : SY → Prop} {m p o b : Nat} (ho : o < 256) (hm : m < 8) (hb4 : o = 1 ∨ o = 2 → b < 4) (J : ∀ (hi re : Int32) (lo : Nat → Int32), post (g_types, g_methods, g_place, g_result, g_linked, 1, hi, re, g_active, g_ticks, g_code, b_above, b_ownField, b_mType, b_mName, b_mLength, b_bytes, b_starts, b_seen, b_done, b_heights, lo, b_sure, b_objType, b_objField, b_marked, b_global, b_fMethod, b_fPc, b_fHigh, b_fLocal, b_fEntry)) : wY_step_158 post (nI m) (nI p) (nI o) (nI b) g_types g_methods g_place g_result g_linked 1 g_high g_refs g_active g_ticks g_code b_above b_ownField b_mType b_mName b_mLength b_bytes b_starts b_seen b_done b_heights b_local b_sure b_objType b_objField b_marked b_global b_fMethod b_fPc b_fHigh b_fLocal b_fEntry := by
  unfold wY_step_158
  exact ⟨fun _ => ⟨fun _ => sb_177 g_types g_methods g_place g_result g_linked g_high g_refs g_active g_ticks g_code b_above b_ownField b_mType b_mName b_mLength b_bytes b_starts b_seen b_done b_heights b_local b_sure b_objType b_objField b_marked b_global b_fMethod b_fPc b_fHigh b_fLocal b_fEntry ho hm hb4 _ J, fun _ => sb_177 g_types g_methods g_place g_result g_linked g_high g_refs g_active g_ticks g_code b_above b_ownField b_mType b_mName b_mLength b_bytes b_starts b_seen b_done b_heights b_local b_sure b_objType b_objField b_marked b_global b_fMethod b_fPc b_fHigh b_fLocal b_fEntry ho hm hb4 _ J⟩, fun _ => sb_180 g_types g_methods g_place g_result g_linked g_high g_refs g_active g_ticks g_code b_above b_ownField b_mType b_mName b_mLength b_bytes b_starts b_seen b_done b_heights b_local b_sure b_objType b_objField b_marked b_global b_fMethod b_fPc b_fHigh b_fLocal b_fEntry ho hm hb4 J⟩
theorem sb_155 (g_types g_methods g_place g_result g_linked g_high g_refs g_active g_ticks g_code : Int32) (b_above b_ownField b_mType b_mName b_mLength b_bytes b_starts : Nat → Int32) (b_seen b_done : Nat → Int64) (b_heights b_local b_sure b_objType b_objField b_marked b_global b_fMethod b_fPc b_fHigh b_fLocal b_fEntry : Nat → Int32) {post : SY → Prop} {m p o b : Nat} (ho : o < 256) (hm : m < 8) (hb4 : o = 1 ∨ o = 2 → b < 4) (z0 : Int32) (J : ∀ (hi re : Int32) (lo : Nat → Int32), post (g_types, g_methods, g_place, g_result, g_linked, 1, hi, re, g_active, g_ticks, g_code, b_above, b_ownField, b_mType, b_mName, b_mLength, b_bytes, b_starts, b_seen, b_done, b_heights, lo, b_sure, b_objType, b_objField, b_marked, b_global, b_fMethod, b_fPc, b_fHigh, b_fLocal, b_fEntry)) : wY_step_155 post (nI m) (nI p) (nI o) (nI b) z0 g_types g_methods g_place g_result g_linked 1 g_high g_refs g_active g_ticks g_code b_above b_ownField b_mType b_mName b_mLength b_bytes b_starts b_seen b_done b_heights b_local b_sure b_objType b_objField b_marked b_global b_fMethod b_fPc b_fHigh b_fLocal b_fEntry := by
  unfold wY_step_155
  exact need_any g_types g_methods g_place g_result g_linked g_high g_refs g_active g_ticks g_code b_above b_ownField b_mType b_mName b_mLength b_bytes b_starts b_seen b_done b_heights b_local b_sure b_objType b_objField b_marked b_global b_fMethod b_fPc b_fHigh b_fLocal b_fEntry _ (fun hi re => sb_158 g_types g_methods g_place g_result g_linked hi re g_active g_ticks g_code b_above b_ownField b_mType b_mName b_mLength b_bytes b_starts b_seen b_done b_heights b_local b_sure b_objType b_objField b_marked b_global b_fMethod b_fPc b_fHigh b_fLocal b_fEntry ho hm hb4 J)
theorem sb_136 (g_types g_methods g_place g_result g_linked g_high g_refs g_active g_ticks g_code : Int32) (b_above b_ownField b_mType b_mName b_mLength b_bytes b_starts : Nat → Int32) (b_seen b_done : Nat → Int64) (b_heights b_local b_sure b_objType b_objField b_marked b_global b_fMethod b_fPc b_fHigh b_fLocal b_fEntry : Nat → Int32) {post : SY → Prop} {m p o b : Nat} (ho : o < 256) (hm : m < 8) (hb4 : o = 1 ∨ o = 2 → b < 4) (J : ∀ (hi re : Int32) (lo : Nat → Int32), post (g_types, g_methods, g_place, g_result, g_linked, 1, hi, re, g_active, g_ticks, g_code, b_above, b_ownField, b_mType, b_mName, b_mLength, b_bytes, b_starts, b_seen, b_done, b_heights, lo, b_sure, b_objType, b_objField, b_marked, b_global, b_fMethod, b_fPc, b_fHigh, b_fLocal, b_fEntry)) : wY_step_136 post (nI m) (nI p) (nI o) (nI b) g_types g_methods g_place g_result g_linked 1 g_high g_refs g_active g_ticks g_code b_above b_ownField b_mType b_mName b_mLength b_bytes b_starts b_seen b_done b_heights b_local b_sure b_objType b_objField b_marked b_global b_fMethod b_fPc b_fHigh b_fLocal b_fEntry := by
  unfold wY_step_136
  exact ⟨fun _ => ⟨fun _ => sb_155 g_types g_methods g_place g_result g_linked g_high g_refs g_active g_ticks g_code b_above b_ownField b_mType b_mName b_mLength b_bytes b_starts b_seen b_done b_heights b_local b_sure b_objType b_objField b_marked b_global b_fMethod b_fPc b_fHigh b_fLocal b_fEntry ho hm hb4 _ J, fun _ => sb_155 g_types g_methods g_place g_result g_linked g_high g_refs g_active g_ticks g_code b_above b_ownField b_mType b_mName b_mLength b_bytes b_starts b_seen b_done b_heights b_local b_sure b_objType b_objField b_marked b_global b_fMethod b_fPc b_fHigh b_fLocal b_fEntry ho hm hb4 _ J⟩, fun _ => sb_158 g_types g_methods g_place g_result g_linked g_high g_refs g_active g_ticks g_code b_above b_ownField b_mType b_mName b_mLength b_bytes b_starts b_seen b_done b_heights b_local b_sure b_objType b_objField b_marked b_global b_fMethod b_fPc b_fHigh b_fLocal b_fEntry ho hm hb4 J⟩
theorem sb_125 (g_types g_methods g_place g_result g_linked g_high g_refs g_active g_ticks g_code : Int32) (b_above b_ownField b_mType b_mName b_mLength b_bytes b_starts : Nat → Int32) (b_seen b_done : Nat → Int64) (b_heights b_local b_sure b_objType b_objField b_marked b_global b_fMethod b_fPc b_fHigh b_fLocal b_fEntry : Nat → Int32) {post : SY → Prop} {m p o b : Nat} (ho : o < 256) (hm : m < 8) (hb4 : o = 1 ∨ o = 2 → b < 4) (J : ∀ (hi re : Int32) (lo : Nat → Int32), post (g_types, g_methods, g_place, g_result, g_linked, 1, hi, re, g_active, g_ticks, g_code, b_above, b_ownField, b_mType, b_mName, b_mLength, b_bytes, b_starts, b_seen, b_done, b_heights, lo, b_sure, b_objType, b_objField, b_marked, b_global, b_fMethod, b_fPc, b_fHigh, b_fLocal, b_fEntry)) : wY_step_125 post (nI m) (nI p) (nI o) (nI b) g_types g_methods g_place g_result g_linked 1 g_high g_refs g_active g_ticks g_code b_above b_ownField b_mType b_mName b_mLength b_bytes b_starts b_seen b_done b_heights b_local b_sure b_objType b_objField b_marked b_global b_fMethod b_fPc b_fHigh b_fLocal b_fEntry := by
  unfold wY_step_125
  exact ⟨fun _ => need_any g_types g_methods g_place g_result g_linked g_high g_refs g_active g_ticks g_code b_above b_ownField b_mType b_mName b_mLength b_bytes b_starts b_seen b_done b_heights b_local b_sure b_objType b_objField b_marked b_global b_fMethod b_fPc b_fHigh b_fLocal b_fEntry _ (fun hi re => sb_136 g_types g_methods g_place g_result g_linked hi re g_active g_ticks g_code b_above b_ownField b_mType b_mName b_mLength b_bytes b_starts b_seen b_done b_heights b_local b_sure b_objType b_objField b_marked b_global b_fMethod b_fPc b_fHigh b_fLocal b_fEntry ho hm hb4 J), fun _ => sb_136 g_types g_methods g_place g_result g_linked g_high g_refs g_active g_ticks g_code b_above b_ownField b_mType b_mName b_mLength b_bytes b_starts b_seen b_done b_heights b_local b_sure b_objType b_objField b_marked b_global b_fMethod b_fPc b_fHigh b_fLocal b_fEntry ho hm hb4 J⟩
theorem sb_122 (g_types g_methods g_place g_result g_linked g_high g_refs g_active g_ticks g_code : Int32) (b_above b_ownField b_mType b_mName b_mLength b_bytes b_starts : Nat → Int32) (b_seen b_done : Nat → Int64) (b_heights b_local b_sure b_objType b_objField b_marked b_global b_fMethod b_fPc b_fHigh b_fLocal b_fEntry : Nat → Int32) {post : SY → Prop} {m p o b : Nat} (ho : o < 256) (hm : m < 8) (hb4 : o = 1 ∨ o = 2 → b < 4) (z0 : Int32) (J : ∀ (hi re : Int32) (lo : Nat → Int32), post (g_types, g_methods, g_place, g_result, g_linked, 1, hi, re, g_active, g_ticks, g_code, b_above, b_ownField, b_mType, b_mName, b_mLength, b_bytes, b_starts, b_seen, b_done, b_heights, lo, b_sure, b_objType, b_objField, b_marked, b_global, b_fMethod, b_fPc, b_fHigh, b_fLocal, b_fEntry)) : wY_step_122 post (nI m) (nI p) (nI o) (nI b) z0 g_types g_methods g_place g_result g_linked 1 g_high g_refs g_active g_ticks g_code b_above b_ownField b_mType b_mName b_mLength b_bytes b_starts b_seen b_done b_heights b_local b_sure b_objType b_objField b_marked b_global b_fMethod b_fPc b_fHigh b_fLocal b_fEntry := by
  unfold wY_step_122
  exact need_any g_types g_methods g_place g_result g_linked g_high g_refs g_active g_ticks g_code b_above b_ownField b_mType b_mName b_mLength b_bytes b_starts b_seen b_done b_heights b_local b_sure b_objType b_objField b_marked b_global b_fMethod b_fPc b_fHigh b_fLocal b_fEntry _ (fun hi re => sb_125 g_types g_methods g_place g_result g_linked hi re g_active g_ticks g_code b_above b_ownField b_mType b_mName b_mLength b_bytes b_starts b_seen b_done b_heights b_local b_sure b_objType b_objField b_marked b_global b_fMethod b_fPc b_fHigh b_fLocal b_fEntry ho hm hb4 J)
theorem sb_107 (g_types g_methods g_place g_result g_linked g_high g_refs g_active g_ticks g_code : Int32) (b_above b_ownField b_mType b_mName b_mLength b_bytes b_starts : Nat → Int32) (b_seen b_done : Nat → Int64) (b_heights b_local b_sure b_objType b_objField b_marked b_global b_fMethod b_fPc b_fHigh b_fLocal b_fEntry : Nat → Int32) {post : SY → Prop} {m p o b : Nat} (ho : o < 256) (hm : m < 8) (hb4 : o = 1 ∨ o = 2 → b < 4) (z0 : Int32) (J : ∀ (hi re : Int32) (lo : Nat → Int32), post (g_types, g_methods, g_place, g_result, g_linked, 1, hi, re, g_active, g_ticks, g_code, b_above, b_ownField, b_mType, b_mName, b_mLength, b_bytes, b_starts, b_seen, b_done, b_heights, lo, b_sure, b_objType, b_objField, b_marked, b_global, b_fMethod, b_fPc, b_fHigh, b_fLocal, b_fEntry)) : wY_step_107 post (nI m) (nI p) (nI o) (nI b) z0 g_types g_methods g_place g_result g_linked 1 g_high g_refs g_active g_ticks g_code b_above b_ownField b_mType b_mName b_mLength b_bytes b_starts b_seen b_done b_heights b_local b_sure b_objType b_objField b_marked b_global b_fMethod b_fPc b_fHigh b_fLocal b_fEntry := by
  unfold wY_step_107
  exact need_any g_types g_methods g_place g_result g_linked g_high g_refs g_active g_ticks g_code b_above b_ownField b_mType b_mName b_mLength b_bytes b_starts b_seen b_done b_heights b_local b_sure b_objType b_objField b_marked b_global b_fMethod b_fPc b_fHigh b_fLocal b_fEntry _ (fun hi re => ⟨fun _ => sb_122 g_types g_methods g_place g_result g_linked hi re g_active g_ticks g_code b_above b_ownField b_mType b_mName b_mLength b_bytes b_starts b_seen b_done b_heights b_local b_sure b_objType b_objField b_marked b_global b_fMethod b_fPc b_fHigh b_fLocal b_fEntry ho hm hb4 _ J, fun _ => sb_122 g_types g_methods g_place g_result g_linked hi re g_active g_ticks g_code b_above b_ownField b_mType b_mName b_mLength b_bytes b_starts b_seen b_done b_heights b_local b_sure b_objType b_objField b_marked b_global b_fMethod b_fPc b_fHigh b_fLocal b_fEntry ho hm hb4 _ J⟩)
theorem sb_84 (g_types g_methods g_place g_result g_linked g_high g_refs g_active g_ticks g_code : Int32) (b_above b_ownField b_mType b_mName b_mLength b_bytes b_starts : Nat → Int32) (b_seen b_done : Nat → Int64) (b_heights b_local b_sure b_objType b_objField b_marked b_global b_fMethod b_fPc b_fHigh b_fLocal b_fEntry : Nat → Int32) {post : SY → Prop} {m p o b : Nat} (ho : o < 256) (hm : m < 8) (hb4 : o = 1 ∨ o = 2 → b < 4) (J : ∀ (hi re : Int32) (lo : Nat → Int32), post (g_types, g_methods, g_place, g_result, g_linked, 1, hi, re, g_active, g_ticks, g_code, b_above, b_ownField, b_mType, b_mName, b_mLength, b_bytes, b_starts, b_seen, b_done, b_heights, lo, b_sure, b_objType, b_objField, b_marked, b_global, b_fMethod, b_fPc, b_fHigh, b_fLocal, b_fEntry)) : wY_step_84 post (nI m) (nI p) (nI o) (nI b) g_types g_methods g_place g_result g_linked 1 g_high g_refs g_active g_ticks g_code b_above b_ownField b_mType b_mName b_mLength b_bytes b_starts b_seen b_done b_heights b_local b_sure b_objType b_objField b_marked b_global b_fMethod b_fPc b_fHigh b_fLocal b_fEntry := by
  unfold wY_step_84
  exact ⟨fun _ => sb_125 g_types g_methods g_place g_result g_linked g_high g_refs g_active g_ticks g_code b_above b_ownField b_mType b_mName b_mLength b_bytes b_starts b_seen b_done b_heights b_local b_sure b_objType b_objField b_marked b_global b_fMethod b_fPc b_fHigh b_fLocal b_fEntry ho hm hb4 J, fun _ => ⟨fun _ => sb_125 g_types g_methods g_place g_result g_linked g_high g_refs g_active g_ticks g_code b_above b_ownField b_mType b_mName b_mLength b_bytes b_starts b_seen b_done b_heights b_local b_sure b_objType b_objField b_marked b_global b_fMethod b_fPc b_fHigh b_fLocal b_fEntry ho hm hb4 J, fun _ => ⟨fun _ => sb_107 g_types g_methods g_place g_result g_linked g_high g_refs g_active g_ticks g_code b_above b_ownField b_mType b_mName b_mLength b_bytes b_starts b_seen b_done b_heights b_local b_sure b_objType b_objField b_marked b_global b_fMethod b_fPc b_fHigh b_fLocal b_fEntry ho hm hb4 _ J, fun _ => sb_107 g_types g_methods g_place g_result g_linked g_high g_refs g_active g_ticks g_code b_above b_ownField b_mType b_mName b_mLength b_bytes b_starts b_seen b_done b_heights b_local b_sure b_objType b_objField b_marked b_global b_fMethod b_fPc b_fHigh b_fLocal b_fEntry ho hm hb4 _ J⟩⟩⟩
theorem sb_68 (g_types g_methods g_place g_result g_linked g_high g_refs g_active g_ticks g_code : Int32) (b_above b_ownField b_mType b_mName b_mLength b_bytes b_starts : Nat → Int32) (b_seen b_done : Nat → Int64) (b_heights b_local b_sure b_objType b_objField b_marked b_global b_fMethod b_fPc b_fHigh b_fLocal b_fEntry : Nat → Int32) {post : SY → Prop} {m p o b : Nat} (ho : o < 256) (hm : m < 8) (hb4 : o = 1 ∨ o = 2 → b < 4) (J : ∀ (hi re : Int32) (lo : Nat → Int32), post (g_types, g_methods, g_place, g_result, g_linked, 1, hi, re, g_active, g_ticks, g_code, b_above, b_ownField, b_mType, b_mName, b_mLength, b_bytes, b_starts, b_seen, b_done, b_heights, lo, b_sure, b_objType, b_objField, b_marked, b_global, b_fMethod, b_fPc, b_fHigh, b_fLocal, b_fEntry)) : wY_step_68 post (nI m) (nI p) (nI o) (nI b) g_types g_methods g_place g_result g_linked 1 g_high g_refs g_active g_ticks g_code b_above b_ownField b_mType b_mName b_mLength b_bytes b_starts b_seen b_done b_heights b_local b_sure b_objType b_objField b_marked b_global b_fMethod b_fPc b_fHigh b_fLocal b_fEntry := by
  unfold wY_step_68
  refine ⟨fun z => pop_any g_types g_methods g_place g_result g_linked g_high g_refs g_active g_ticks g_code b_above b_ownField b_mType b_mName b_mLength b_bytes b_starts b_seen b_done b_heights b_local b_sure b_objType b_objField b_marked b_global b_fMethod b_fPc b_fHigh b_fLocal b_fEntry (fun r hi re => ⟨?_, nm_e (sb_84 g_types g_methods g_place g_result g_linked hi re g_active g_ticks g_code b_above b_ownField b_mType b_mName b_mLength b_bytes b_starts b_seen b_done b_heights _ b_sure b_objType b_objField b_marked b_global b_fMethod b_fPc b_fHigh b_fLocal b_fEntry ho hm hb4 J)⟩), fun _ => sb_84 g_types g_methods g_place g_result g_linked g_high g_refs g_active g_ticks g_code b_above b_ownField b_mType b_mName b_mLength b_bytes b_starts b_seen b_done b_heights b_local b_sure b_objType b_objField b_marked b_global b_fMethod b_fPc b_fHigh b_fLocal b_fEntry ho hm hb4 J⟩
  rw [gm_eqL (by omega) (by omega)] at z
  have := hb4 (Or.inr z)
  exact vp_in_nI this (by omega)
theorem sb_58 (g_types g_methods g_place g_result g_linked g_high g_refs g_active g_ticks g_code : Int32) (b_above b_ownField b_mType b_mName b_mLength b_bytes b_starts : Nat → Int32) (b_seen b_done : Nat → Int64) (b_heights b_local b_sure b_objType b_objField b_marked b_global b_fMethod b_fPc b_fHigh b_fLocal b_fEntry : Nat → Int32) {post : SY → Prop} {m p o b : Nat} (ho : o < 256) (hm : m < 8) (hb4 : o = 1 ∨ o = 2 → b < 4) (J : ∀ (hi re : Int32) (lo : Nat → Int32), post (g_types, g_methods, g_place, g_result, g_linked, 1, hi, re, g_active, g_ticks, g_code, b_above, b_ownField, b_mType, b_mName, b_mLength, b_bytes, b_starts, b_seen, b_done, b_heights, lo, b_sure, b_objType, b_objField, b_marked, b_global, b_fMethod, b_fPc, b_fHigh, b_fLocal, b_fEntry)) : wY_step_58 post (nI m) (nI p) (nI o) (nI b) g_types g_methods g_place g_result g_linked 1 g_high g_refs g_active g_ticks g_code b_above b_ownField b_mType b_mName b_mLength b_bytes b_starts b_seen b_done b_heights b_local b_sure b_objType b_objField b_marked b_global b_fMethod b_fPc b_fHigh b_fLocal b_fEntry := by
  unfold wY_step_58
  exact ⟨fun _ => pop_any g_types g_methods g_place g_result g_linked g_high g_refs g_active g_ticks g_code b_above b_ownField b_mType b_mName b_mLength b_bytes b_starts b_seen b_done b_heights b_local b_sure b_objType b_objField b_marked b_global b_fMethod b_fPc b_fHigh b_fLocal b_fEntry (fun r hi re => sb_68 g_types g_methods g_place g_result g_linked hi re g_active g_ticks g_code b_above b_ownField b_mType b_mName b_mLength b_bytes b_starts b_seen b_done b_heights b_local b_sure b_objType b_objField b_marked b_global b_fMethod b_fPc b_fHigh b_fLocal b_fEntry ho hm hb4 J), fun _ => sb_68 g_types g_methods g_place g_result g_linked g_high g_refs g_active g_ticks g_code b_above b_ownField b_mType b_mName b_mLength b_bytes b_starts b_seen b_done b_heights b_local b_sure b_objType b_objField b_marked b_global b_fMethod b_fPc b_fHigh b_fLocal b_fEntry ho hm hb4 J⟩
theorem sb_35 (g_types g_methods g_place g_result g_linked g_high g_refs g_active g_ticks g_code : Int32) (b_above b_ownField b_mType b_mName b_mLength b_bytes b_starts : Nat → Int32) (b_seen b_done : Nat → Int64) (b_heights b_local b_sure b_objType b_objField b_marked b_global b_fMethod b_fPc b_fHigh b_fLocal b_fEntry : Nat → Int32) {post : SY → Prop} {m p o b : Nat} (ho : o < 256) (hm : m < 8) (hb4 : o = 1 ∨ o = 2 → b < 4) (J : ∀ (hi re : Int32) (lo : Nat → Int32), post (g_types, g_methods, g_place, g_result, g_linked, 1, hi, re, g_active, g_ticks, g_code, b_above, b_ownField, b_mType, b_mName, b_mLength, b_bytes, b_starts, b_seen, b_done, b_heights, lo, b_sure, b_objType, b_objField, b_marked, b_global, b_fMethod, b_fPc, b_fHigh, b_fLocal, b_fEntry)) : wY_step_35 post (nI m) (nI p) (nI o) (nI b) g_types g_methods g_place g_result g_linked 1 g_high g_refs g_active g_ticks g_code b_above b_ownField b_mType b_mName b_mLength b_bytes b_starts b_seen b_done b_heights b_local b_sure b_objType b_objField b_marked b_global b_fMethod b_fPc b_fHigh b_fLocal b_fEntry := by
  unfold wY_step_35
  refine ⟨fun z => ⟨?_, fun _ => sb_58 g_types g_methods g_place g_result g_linked g_high g_refs g_active g_ticks g_code b_above b_ownField b_mType b_mName b_mLength b_bytes b_starts b_seen b_done b_heights b_local b_sure b_objType b_objField b_marked b_global b_fMethod b_fPc b_fHigh b_fLocal b_fEntry ho hm hb4 J, fun _ => sb_58 g_types g_methods g_place g_result g_linked g_high g_refs g_active g_ticks g_code b_above b_ownField b_mType b_mName b_mLength b_bytes b_starts b_seen b_done b_heights b_local b_sure b_objType b_objField b_marked b_global b_fMethod b_fPc b_fHigh b_fLocal b_fEntry ho hm hb4 J⟩, fun _ => sb_58 g_types g_methods g_place g_result g_linked g_high g_refs g_active g_ticks g_code b_above b_ownField b_mType b_mName b_mLength b_bytes b_starts b_seen b_done b_heights b_local b_sure b_objType b_objField b_marked b_global b_fMethod b_fPc b_fHigh b_fLocal b_fEntry ho hm hb4 J⟩
  rw [gm_eqL (by omega) (by omega)] at z
  have := hb4 (Or.inl z)
  exact vp_in_nI this (by omega)
theorem s35_4 (g_types g_methods g_place g_result g_linked g_active g_ticks g_code : Int32) (b_above b_ownField b_mType b_mName b_mLength b_bytes b_starts : Nat → Int32) (b_seen b_done : Nat → Int64) (b_heights b_local b_sure b_objType b_objField b_marked b_global b_fMethod b_fPc b_fHigh b_fLocal b_fEntry : Nat → Int32) {post : SY → Prop} {m p b nm st h : Nat} (ho : 4 < 21) (hb : b < 256) (hb4 : 4 = 1 ∨ 4 = 2 → b < 4) (hm : m < 8) (eN : b_mName m = nI nm) (hn : nm < 16) (h5 : h ≤ 5) (hr : wy_r st < 2 ^ h) (hl : ∀ s, s < 4 → b_local s = nI (wy_c st s))
    (T1 : wy_ok 4 b nm st h → ∀ (hi re : Int32) (lo : Nat → Int32), hi = nI (wy_h 4 h) → re = nI (wy_nr 4 b st h) → (∀ s, s < 4 → lo s = nI (wy_nl 4 b st h s)) → wY_step_333 post (nI m) (nI p) (nI 4) (nI b) g_types g_methods g_place g_result g_linked 0 hi re g_active g_ticks g_code b_above b_ownField b_mType b_mName b_mLength b_bytes b_starts b_seen b_done b_heights lo b_sure b_objType b_objField b_marked b_global b_fMethod b_fPc b_fHigh b_fLocal b_fEntry)
    (T0 : ¬ wy_ok 4 b nm st h → ∀ (hi re : Int32) (lo : Nat → Int32), post (g_types, g_methods, g_place, g_result, g_linked, 1, hi, re, g_active, g_ticks, g_code, b_above, b_ownField, b_mType, b_mName, b_mLength, b_bytes, b_starts, b_seen, b_done, b_heights, lo, b_sure, b_objType, b_objField, b_marked, b_global, b_fMethod, b_fPc, b_fHigh, b_fLocal, b_fEntry)) :
    wY_step_35 post (nI m) (nI p) (nI 4) (nI b) g_types g_methods g_place g_result g_linked 0 (nI h) (nI (wy_r st)) g_active g_ticks g_code b_above b_ownField b_mType b_mName b_mLength b_bytes b_starts b_seen b_done b_heights b_local b_sure b_objType b_objField b_marked b_global b_fMethod b_fPc b_fHigh b_fLocal b_fEntry := by
  have hp := wy_p5 h (by omega)
  have w := wok2 (o := 4) (b := b) (nm := nm) (st := st) (k1 := 0) (k2 := 0) rfl (by decide) (fun c hc => kd_e2 hc) (fun c hc => kd_e2 hc) h5
  exact br_f (by decide) (br_f (by decide) (br_f (by decide) (br_f (by decide) (br_f (by decide) (br_f (by decide) (ev_need g_types g_methods g_place g_result g_linked g_active g_ticks g_code b_above b_ownField b_mType b_mName b_mLength b_bytes b_starts b_seen b_done b_heights b_local b_sure b_objType b_objField b_marked b_global b_fMethod b_fPc b_fHigh b_fLocal b_fEntry (k := 0) h5 hr (by omega) (fun a1 a2 => br_f (by decide) (ev_need g_types g_methods g_place g_result g_linked g_active g_ticks g_code b_above b_ownField b_mType b_mName b_mLength b_bytes b_starts b_seen b_done b_heights b_local b_sure b_objType b_objField b_marked b_global b_fMethod b_fPc b_fHigh b_fLocal b_fEntry (k := 0) (by omega) (yr_1 h (by omega) _ (by omega) a1) (by omega) (fun b1 b2 => br_f (by decide) (br_f (by decide) (br_f (by decide) (br_t (by decide) (br_f (by decide) (br_f (by decide) (br_f (by decide) (br_f (by decide) (br_t (by decide) (ev_ypush g_types g_methods g_place g_result g_linked g_active g_ticks g_code b_above b_ownField b_mType b_mName b_mLength b_bytes b_starts b_seen b_done b_heights b_local b_sure b_objType b_objField b_marked b_global b_fMethod b_fPc b_fHigh b_fLocal b_fEntry (k := 0) (by omega) (by rw [(yr_2 h (by omega) _ (by omega) (by omega)).2.2]; exact yr_3 h (by omega) _ (by omega) (by omega)) (by omega) (fun _ => T1 (w.mpr ⟨by omega, a2, by rw [← (yr_2 h (by omega) _ (by omega) (by omega)).2.1]; exact b2⟩) _ _ _ (by show nI (h - 1 - 1 + 1) = nI (h - 2 + 1); rw [Nat.sub_sub]) (by rw [(yr_2 h (by omega) _ (by omega) (by omega)).2.2, Nat.sub_sub]; rfl) (fun s hs => by rw [nl_ne (by decide)]; exact hl s hs)) (fun z => absurd (by omega) z))))))))))) (fun b' hi re => sb_125 g_types g_methods g_place g_result g_linked hi re g_active g_ticks g_code b_above b_ownField b_mType b_mName b_mLength b_bytes b_starts b_seen b_done b_heights b_local b_sure b_objType b_objField b_marked b_global b_fMethod b_fPc b_fHigh b_fLocal b_fEntry (by omega) hm hb4 (T0 (fun z => b' ⟨by have := (w.mp z).1; omega, by rw [(yr_2 h (by omega) _ (by omega) (w.mp z).1).2.1]; exact (w.mp z).2.2⟩))))) (fun a hi re => ⟨fun _ => sb_122 g_types g_methods g_place g_result g_linked hi re g_active g_ticks g_code b_above b_ownField b_mType b_mName b_mLength b_bytes b_starts b_seen b_done b_heights b_local b_sure b_objType b_objField b_marked b_global b_fMethod b_fPc b_fHigh b_fLocal b_fEntry (by omega) hm hb4 _ (T0 (fun z => a ⟨by have := (w.mp z).1; omega, (w.mp z).2.1⟩)), fun _ => sb_122 g_types g_methods g_place g_result g_linked hi re g_active g_ticks g_code b_above b_ownField b_mType b_mName b_mLength b_bytes b_starts b_seen b_done b_heights b_local b_sure b_objType b_objField b_marked b_global b_fMethod b_fPc b_fHigh b_fLocal b_fEntry (by omega) hm hb4 _ (T0 (fun z => a ⟨by have := (w.mp z).1; omega, (w.mp z).2.1⟩))⟩)))))))
theorem s35_5 (g_types g_methods g_place g_result g_linked g_active g_ticks g_code : Int32) (b_above b_ownField b_mType b_mName b_mLength b_bytes b_starts : Nat → Int32) (b_seen b_done : Nat → Int64) (b_heights b_local b_sure b_objType b_objField b_marked b_global b_fMethod b_fPc b_fHigh b_fLocal b_fEntry : Nat → Int32) {post : SY → Prop} {m p b nm st h : Nat} (ho : 5 < 21) (hb : b < 256) (hb4 : 5 = 1 ∨ 5 = 2 → b < 4) (hm : m < 8) (eN : b_mName m = nI nm) (hn : nm < 16) (h5 : h ≤ 5) (hr : wy_r st < 2 ^ h) (hl : ∀ s, s < 4 → b_local s = nI (wy_c st s))
    (T1 : wy_ok 5 b nm st h → ∀ (hi re : Int32) (lo : Nat → Int32), hi = nI (wy_h 5 h) → re = nI (wy_nr 5 b st h) → (∀ s, s < 4 → lo s = nI (wy_nl 5 b st h s)) → wY_step_333 post (nI m) (nI p) (nI 5) (nI b) g_types g_methods g_place g_result g_linked 0 hi re g_active g_ticks g_code b_above b_ownField b_mType b_mName b_mLength b_bytes b_starts b_seen b_done b_heights lo b_sure b_objType b_objField b_marked b_global b_fMethod b_fPc b_fHigh b_fLocal b_fEntry)
    (T0 : ¬ wy_ok 5 b nm st h → ∀ (hi re : Int32) (lo : Nat → Int32), post (g_types, g_methods, g_place, g_result, g_linked, 1, hi, re, g_active, g_ticks, g_code, b_above, b_ownField, b_mType, b_mName, b_mLength, b_bytes, b_starts, b_seen, b_done, b_heights, lo, b_sure, b_objType, b_objField, b_marked, b_global, b_fMethod, b_fPc, b_fHigh, b_fLocal, b_fEntry)) :
    wY_step_35 post (nI m) (nI p) (nI 5) (nI b) g_types g_methods g_place g_result g_linked 0 (nI h) (nI (wy_r st)) g_active g_ticks g_code b_above b_ownField b_mType b_mName b_mLength b_bytes b_starts b_seen b_done b_heights b_local b_sure b_objType b_objField b_marked b_global b_fMethod b_fPc b_fHigh b_fLocal b_fEntry := by
  have hp := wy_p5 h (by omega)
  have w := wok2 (o := 5) (b := b) (nm := nm) (st := st) (k1 := 0) (k2 := 0) rfl (by decide) (fun c hc => kd_e2 hc) (fun c hc => kd_e2 hc) h5
  exact br_f (by decide) (br_f (by decide) (br_f (by decide) (br_f (by decide) (br_f (by decide) (br_f (by decide) (ev_need g_types g_methods g_place g_result g_linked g_active g_ticks g_code b_above b_ownField b_mType b_mName b_mLength b_bytes b_starts b_seen b_done b_heights b_local b_sure b_objType b_objField b_marked b_global b_fMethod b_fPc b_fHigh b_fLocal b_fEntry (k := 0) h5 hr (by omega) (fun a1 a2 => br_f (by decide) (ev_need g_types g_methods g_place g_result g_linked g_active g_ticks g_code b_above b_ownField b_mType b_mName b_mLength b_bytes b_starts b_seen b_done b_heights b_local b_sure b_objType b_objField b_marked b_global b_fMethod b_fPc b_fHigh b_fLocal b_fEntry (k := 0) (by omega) (yr_1 h (by omega) _ (by omega) a1) (by omega) (fun b1 b2 => br_f (by decide) (br_f (by decide) (br_f (by decide) (br_t (by decide) (br_f (by decide) (br_f (by decide) (br_f (by decide) (br_f (by decide) (br_t (by decide) (ev_ypush g_types g_methods g_place g_result g_linked g_active g_ticks g_code b_above b_ownField b_mType b_mName b_mLength b_bytes b_starts b_seen b_done b_heights b_local b_sure b_objType b_objField b_marked b_global b_fMethod b_fPc b_fHigh b_fLocal b_fEntry (k := 0) (by omega) (by rw [(yr_2 h (by omega) _ (by omega) (by omega)).2.2]; exact yr_3 h (by omega) _ (by omega) (by omega)) (by omega) (fun _ => T1 (w.mpr ⟨by omega, a2, by rw [← (yr_2 h (by omega) _ (by omega) (by omega)).2.1]; exact b2⟩) _ _ _ (by show nI (h - 1 - 1 + 1) = nI (h - 2 + 1); rw [Nat.sub_sub]) (by rw [(yr_2 h (by omega) _ (by omega) (by omega)).2.2, Nat.sub_sub]; rfl) (fun s hs => by rw [nl_ne (by decide)]; exact hl s hs)) (fun z => absurd (by omega) z))))))))))) (fun b' hi re => sb_125 g_types g_methods g_place g_result g_linked hi re g_active g_ticks g_code b_above b_ownField b_mType b_mName b_mLength b_bytes b_starts b_seen b_done b_heights b_local b_sure b_objType b_objField b_marked b_global b_fMethod b_fPc b_fHigh b_fLocal b_fEntry (by omega) hm hb4 (T0 (fun z => b' ⟨by have := (w.mp z).1; omega, by rw [(yr_2 h (by omega) _ (by omega) (w.mp z).1).2.1]; exact (w.mp z).2.2⟩))))) (fun a hi re => ⟨fun _ => sb_122 g_types g_methods g_place g_result g_linked hi re g_active g_ticks g_code b_above b_ownField b_mType b_mName b_mLength b_bytes b_starts b_seen b_done b_heights b_local b_sure b_objType b_objField b_marked b_global b_fMethod b_fPc b_fHigh b_fLocal b_fEntry (by omega) hm hb4 _ (T0 (fun z => a ⟨by have := (w.mp z).1; omega, (w.mp z).2.1⟩)), fun _ => sb_122 g_types g_methods g_place g_result g_linked hi re g_active g_ticks g_code b_above b_ownField b_mType b_mName b_mLength b_bytes b_starts b_seen b_done b_heights b_local b_sure b_objType b_objField b_marked b_global b_fMethod b_fPc b_fHigh b_fLocal b_fEntry (by omega) hm hb4 _ (T0 (fun z => a ⟨by have := (w.mp z).1; omega, (w.mp z).2.1⟩))⟩)))))))
theorem s35_6 (g_types g_methods g_place g_result g_linked g_active g_ticks g_code : Int32) (b_above b_ownField b_mType b_mName b_mLength b_bytes b_starts : Nat → Int32) (b_seen b_done : Nat → Int64) (b_heights b_local b_sure b_objType b_objField b_marked b_global b_fMethod b_fPc b_fHigh b_fLocal b_fEntry : Nat → Int32) {post : SY → Prop} {m p b nm st h : Nat} (ho : 6 < 21) (hb : b < 256) (hb4 : 6 = 1 ∨ 6 = 2 → b < 4) (hm : m < 8) (eN : b_mName m = nI nm) (hn : nm < 16) (h5 : h ≤ 5) (hr : wy_r st < 2 ^ h) (hl : ∀ s, s < 4 → b_local s = nI (wy_c st s))
    (T1 : wy_ok 6 b nm st h → ∀ (hi re : Int32) (lo : Nat → Int32), hi = nI (wy_h 6 h) → re = nI (wy_nr 6 b st h) → (∀ s, s < 4 → lo s = nI (wy_nl 6 b st h s)) → wY_step_333 post (nI m) (nI p) (nI 6) (nI b) g_types g_methods g_place g_result g_linked 0 hi re g_active g_ticks g_code b_above b_ownField b_mType b_mName b_mLength b_bytes b_starts b_seen b_done b_heights lo b_sure b_objType b_objField b_marked b_global b_fMethod b_fPc b_fHigh b_fLocal b_fEntry)
    (T0 : ¬ wy_ok 6 b nm st h → ∀ (hi re : Int32) (lo : Nat → Int32), post (g_types, g_methods, g_place, g_result, g_linked, 1, hi, re, g_active, g_ticks, g_code, b_above, b_ownField, b_mType, b_mName, b_mLength, b_bytes, b_starts, b_seen, b_done, b_heights, lo, b_sure, b_objType, b_objField, b_marked, b_global, b_fMethod, b_fPc, b_fHigh, b_fLocal, b_fEntry)) :
    wY_step_35 post (nI m) (nI p) (nI 6) (nI b) g_types g_methods g_place g_result g_linked 0 (nI h) (nI (wy_r st)) g_active g_ticks g_code b_above b_ownField b_mType b_mName b_mLength b_bytes b_starts b_seen b_done b_heights b_local b_sure b_objType b_objField b_marked b_global b_fMethod b_fPc b_fHigh b_fLocal b_fEntry := by
  have hp := wy_p5 h (by omega)
  have w := wok2 (o := 6) (b := b) (nm := nm) (st := st) (k1 := 0) (k2 := 0) rfl (by decide) (fun c hc => kd_e2 hc) (fun c hc => kd_e2 hc) h5
  exact br_f (by decide) (br_f (by decide) (br_f (by decide) (br_f (by decide) (br_f (by decide) (br_f (by decide) (ev_need g_types g_methods g_place g_result g_linked g_active g_ticks g_code b_above b_ownField b_mType b_mName b_mLength b_bytes b_starts b_seen b_done b_heights b_local b_sure b_objType b_objField b_marked b_global b_fMethod b_fPc b_fHigh b_fLocal b_fEntry (k := 0) h5 hr (by omega) (fun a1 a2 => br_f (by decide) (ev_need g_types g_methods g_place g_result g_linked g_active g_ticks g_code b_above b_ownField b_mType b_mName b_mLength b_bytes b_starts b_seen b_done b_heights b_local b_sure b_objType b_objField b_marked b_global b_fMethod b_fPc b_fHigh b_fLocal b_fEntry (k := 0) (by omega) (yr_1 h (by omega) _ (by omega) a1) (by omega) (fun b1 b2 => br_f (by decide) (br_f (by decide) (br_f (by decide) (br_t (by decide) (br_f (by decide) (br_f (by decide) (br_f (by decide) (br_f (by decide) (br_t (by decide) (ev_ypush g_types g_methods g_place g_result g_linked g_active g_ticks g_code b_above b_ownField b_mType b_mName b_mLength b_bytes b_starts b_seen b_done b_heights b_local b_sure b_objType b_objField b_marked b_global b_fMethod b_fPc b_fHigh b_fLocal b_fEntry (k := 0) (by omega) (by rw [(yr_2 h (by omega) _ (by omega) (by omega)).2.2]; exact yr_3 h (by omega) _ (by omega) (by omega)) (by omega) (fun _ => T1 (w.mpr ⟨by omega, a2, by rw [← (yr_2 h (by omega) _ (by omega) (by omega)).2.1]; exact b2⟩) _ _ _ (by show nI (h - 1 - 1 + 1) = nI (h - 2 + 1); rw [Nat.sub_sub]) (by rw [(yr_2 h (by omega) _ (by omega) (by omega)).2.2, Nat.sub_sub]; rfl) (fun s hs => by rw [nl_ne (by decide)]; exact hl s hs)) (fun z => absurd (by omega) z))))))))))) (fun b' hi re => sb_125 g_types g_methods g_place g_result g_linked hi re g_active g_ticks g_code b_above b_ownField b_mType b_mName b_mLength b_bytes b_starts b_seen b_done b_heights b_local b_sure b_objType b_objField b_marked b_global b_fMethod b_fPc b_fHigh b_fLocal b_fEntry (by omega) hm hb4 (T0 (fun z => b' ⟨by have := (w.mp z).1; omega, by rw [(yr_2 h (by omega) _ (by omega) (w.mp z).1).2.1]; exact (w.mp z).2.2⟩))))) (fun a hi re => ⟨fun _ => sb_122 g_types g_methods g_place g_result g_linked hi re g_active g_ticks g_code b_above b_ownField b_mType b_mName b_mLength b_bytes b_starts b_seen b_done b_heights b_local b_sure b_objType b_objField b_marked b_global b_fMethod b_fPc b_fHigh b_fLocal b_fEntry (by omega) hm hb4 _ (T0 (fun z => a ⟨by have := (w.mp z).1; omega, (w.mp z).2.1⟩)), fun _ => sb_122 g_types g_methods g_place g_result g_linked hi re g_active g_ticks g_code b_above b_ownField b_mType b_mName b_mLength b_bytes b_starts b_seen b_done b_heights b_local b_sure b_objType b_objField b_marked b_global b_fMethod b_fPc b_fHigh b_fLocal b_fEntry (by omega) hm hb4 _ (T0 (fun z => a ⟨by have := (w.mp z).1; omega, (w.mp z).2.1⟩))⟩)))))))
theorem s35_7 (g_types g_methods g_place g_result g_linked g_active g_ticks g_code : Int32) (b_above b_ownField b_mType b_mName b_mLength b_bytes b_starts : Nat → Int32) (b_seen b_done : Nat → Int64) (b_heights b_local b_sure b_objType b_objField b_marked b_global b_fMethod b_fPc b_fHigh b_fLocal b_fEntry : Nat → Int32) {post : SY → Prop} {m p b nm st h : Nat} (ho : 7 < 21) (hb : b < 256) (hb4 : 7 = 1 ∨ 7 = 2 → b < 4) (hm : m < 8) (eN : b_mName m = nI nm) (hn : nm < 16) (h5 : h ≤ 5) (hr : wy_r st < 2 ^ h) (hl : ∀ s, s < 4 → b_local s = nI (wy_c st s))
    (T1 : wy_ok 7 b nm st h → ∀ (hi re : Int32) (lo : Nat → Int32), hi = nI (wy_h 7 h) → re = nI (wy_nr 7 b st h) → (∀ s, s < 4 → lo s = nI (wy_nl 7 b st h s)) → wY_step_333 post (nI m) (nI p) (nI 7) (nI b) g_types g_methods g_place g_result g_linked 0 hi re g_active g_ticks g_code b_above b_ownField b_mType b_mName b_mLength b_bytes b_starts b_seen b_done b_heights lo b_sure b_objType b_objField b_marked b_global b_fMethod b_fPc b_fHigh b_fLocal b_fEntry)
    (T0 : ¬ wy_ok 7 b nm st h → ∀ (hi re : Int32) (lo : Nat → Int32), post (g_types, g_methods, g_place, g_result, g_linked, 1, hi, re, g_active, g_ticks, g_code, b_above, b_ownField, b_mType, b_mName, b_mLength, b_bytes, b_starts, b_seen, b_done, b_heights, lo, b_sure, b_objType, b_objField, b_marked, b_global, b_fMethod, b_fPc, b_fHigh, b_fLocal, b_fEntry)) :
    wY_step_35 post (nI m) (nI p) (nI 7) (nI b) g_types g_methods g_place g_result g_linked 0 (nI h) (nI (wy_r st)) g_active g_ticks g_code b_above b_ownField b_mType b_mName b_mLength b_bytes b_starts b_seen b_done b_heights b_local b_sure b_objType b_objField b_marked b_global b_fMethod b_fPc b_fHigh b_fLocal b_fEntry := by
  have hp := wy_p5 h (by omega)
  have w := wok2 (o := 7) (b := b) (nm := nm) (st := st) (k1 := 0) (k2 := 0) rfl (by decide) (fun c hc => kd_e2 hc) (fun c hc => kd_e2 hc) h5
  exact br_f (by decide) (br_f (by decide) (br_f (by decide) (br_f (by decide) (br_f (by decide) (br_f (by decide) (ev_need g_types g_methods g_place g_result g_linked g_active g_ticks g_code b_above b_ownField b_mType b_mName b_mLength b_bytes b_starts b_seen b_done b_heights b_local b_sure b_objType b_objField b_marked b_global b_fMethod b_fPc b_fHigh b_fLocal b_fEntry (k := 0) h5 hr (by omega) (fun a1 a2 => br_f (by decide) (ev_need g_types g_methods g_place g_result g_linked g_active g_ticks g_code b_above b_ownField b_mType b_mName b_mLength b_bytes b_starts b_seen b_done b_heights b_local b_sure b_objType b_objField b_marked b_global b_fMethod b_fPc b_fHigh b_fLocal b_fEntry (k := 0) (by omega) (yr_1 h (by omega) _ (by omega) a1) (by omega) (fun b1 b2 => br_f (by decide) (br_f (by decide) (br_f (by decide) (br_t (by decide) (br_f (by decide) (br_f (by decide) (br_f (by decide) (br_f (by decide) (br_t (by decide) (ev_ypush g_types g_methods g_place g_result g_linked g_active g_ticks g_code b_above b_ownField b_mType b_mName b_mLength b_bytes b_starts b_seen b_done b_heights b_local b_sure b_objType b_objField b_marked b_global b_fMethod b_fPc b_fHigh b_fLocal b_fEntry (k := 0) (by omega) (by rw [(yr_2 h (by omega) _ (by omega) (by omega)).2.2]; exact yr_3 h (by omega) _ (by omega) (by omega)) (by omega) (fun _ => T1 (w.mpr ⟨by omega, a2, by rw [← (yr_2 h (by omega) _ (by omega) (by omega)).2.1]; exact b2⟩) _ _ _ (by show nI (h - 1 - 1 + 1) = nI (h - 2 + 1); rw [Nat.sub_sub]) (by rw [(yr_2 h (by omega) _ (by omega) (by omega)).2.2, Nat.sub_sub]; rfl) (fun s hs => by rw [nl_ne (by decide)]; exact hl s hs)) (fun z => absurd (by omega) z))))))))))) (fun b' hi re => sb_125 g_types g_methods g_place g_result g_linked hi re g_active g_ticks g_code b_above b_ownField b_mType b_mName b_mLength b_bytes b_starts b_seen b_done b_heights b_local b_sure b_objType b_objField b_marked b_global b_fMethod b_fPc b_fHigh b_fLocal b_fEntry (by omega) hm hb4 (T0 (fun z => b' ⟨by have := (w.mp z).1; omega, by rw [(yr_2 h (by omega) _ (by omega) (w.mp z).1).2.1]; exact (w.mp z).2.2⟩))))) (fun a hi re => ⟨fun _ => sb_122 g_types g_methods g_place g_result g_linked hi re g_active g_ticks g_code b_above b_ownField b_mType b_mName b_mLength b_bytes b_starts b_seen b_done b_heights b_local b_sure b_objType b_objField b_marked b_global b_fMethod b_fPc b_fHigh b_fLocal b_fEntry (by omega) hm hb4 _ (T0 (fun z => a ⟨by have := (w.mp z).1; omega, (w.mp z).2.1⟩)), fun _ => sb_122 g_types g_methods g_place g_result g_linked hi re g_active g_ticks g_code b_above b_ownField b_mType b_mName b_mLength b_bytes b_starts b_seen b_done b_heights b_local b_sure b_objType b_objField b_marked b_global b_fMethod b_fPc b_fHigh b_fLocal b_fEntry (by omega) hm hb4 _ (T0 (fun z => a ⟨by have := (w.mp z).1; omega, (w.mp z).2.1⟩))⟩)))))))
theorem s35_8 (g_types g_methods g_place g_result g_linked g_active g_ticks g_code : Int32) (b_above b_ownField b_mType b_mName b_mLength b_bytes b_starts : Nat → Int32) (b_seen b_done : Nat → Int64) (b_heights b_local b_sure b_objType b_objField b_marked b_global b_fMethod b_fPc b_fHigh b_fLocal b_fEntry : Nat → Int32) {post : SY → Prop} {m p b nm st h : Nat} (ho : 8 < 21) (hb : b < 256) (hb4 : 8 = 1 ∨ 8 = 2 → b < 4) (hm : m < 8) (eN : b_mName m = nI nm) (hn : nm < 16) (h5 : h ≤ 5) (hr : wy_r st < 2 ^ h) (hl : ∀ s, s < 4 → b_local s = nI (wy_c st s))
    (T1 : wy_ok 8 b nm st h → ∀ (hi re : Int32) (lo : Nat → Int32), hi = nI (wy_h 8 h) → re = nI (wy_nr 8 b st h) → (∀ s, s < 4 → lo s = nI (wy_nl 8 b st h s)) → wY_step_333 post (nI m) (nI p) (nI 8) (nI b) g_types g_methods g_place g_result g_linked 0 hi re g_active g_ticks g_code b_above b_ownField b_mType b_mName b_mLength b_bytes b_starts b_seen b_done b_heights lo b_sure b_objType b_objField b_marked b_global b_fMethod b_fPc b_fHigh b_fLocal b_fEntry)
    (T0 : ¬ wy_ok 8 b nm st h → ∀ (hi re : Int32) (lo : Nat → Int32), post (g_types, g_methods, g_place, g_result, g_linked, 1, hi, re, g_active, g_ticks, g_code, b_above, b_ownField, b_mType, b_mName, b_mLength, b_bytes, b_starts, b_seen, b_done, b_heights, lo, b_sure, b_objType, b_objField, b_marked, b_global, b_fMethod, b_fPc, b_fHigh, b_fLocal, b_fEntry)) :
    wY_step_35 post (nI m) (nI p) (nI 8) (nI b) g_types g_methods g_place g_result g_linked 0 (nI h) (nI (wy_r st)) g_active g_ticks g_code b_above b_ownField b_mType b_mName b_mLength b_bytes b_starts b_seen b_done b_heights b_local b_sure b_objType b_objField b_marked b_global b_fMethod b_fPc b_fHigh b_fLocal b_fEntry := by
  have hp := wy_p5 h (by omega)
  have w := wok2 (o := 8) (b := b) (nm := nm) (st := st) (k1 := 0) (k2 := 0) rfl (by decide) (fun c hc => kd_e2 hc) (fun c hc => kd_e2 hc) h5
  exact br_f (by decide) (br_f (by decide) (br_f (by decide) (br_f (by decide) (br_f (by decide) (br_f (by decide) (ev_need g_types g_methods g_place g_result g_linked g_active g_ticks g_code b_above b_ownField b_mType b_mName b_mLength b_bytes b_starts b_seen b_done b_heights b_local b_sure b_objType b_objField b_marked b_global b_fMethod b_fPc b_fHigh b_fLocal b_fEntry (k := 0) h5 hr (by omega) (fun a1 a2 => br_f (by decide) (ev_need g_types g_methods g_place g_result g_linked g_active g_ticks g_code b_above b_ownField b_mType b_mName b_mLength b_bytes b_starts b_seen b_done b_heights b_local b_sure b_objType b_objField b_marked b_global b_fMethod b_fPc b_fHigh b_fLocal b_fEntry (k := 0) (by omega) (yr_1 h (by omega) _ (by omega) a1) (by omega) (fun b1 b2 => br_f (by decide) (br_f (by decide) (br_f (by decide) (br_t (by decide) (br_f (by decide) (br_f (by decide) (br_f (by decide) (br_f (by decide) (br_t (by decide) (ev_ypush g_types g_methods g_place g_result g_linked g_active g_ticks g_code b_above b_ownField b_mType b_mName b_mLength b_bytes b_starts b_seen b_done b_heights b_local b_sure b_objType b_objField b_marked b_global b_fMethod b_fPc b_fHigh b_fLocal b_fEntry (k := 0) (by omega) (by rw [(yr_2 h (by omega) _ (by omega) (by omega)).2.2]; exact yr_3 h (by omega) _ (by omega) (by omega)) (by omega) (fun _ => T1 (w.mpr ⟨by omega, a2, by rw [← (yr_2 h (by omega) _ (by omega) (by omega)).2.1]; exact b2⟩) _ _ _ (by show nI (h - 1 - 1 + 1) = nI (h - 2 + 1); rw [Nat.sub_sub]) (by rw [(yr_2 h (by omega) _ (by omega) (by omega)).2.2, Nat.sub_sub]; rfl) (fun s hs => by rw [nl_ne (by decide)]; exact hl s hs)) (fun z => absurd (by omega) z))))))))))) (fun b' hi re => sb_125 g_types g_methods g_place g_result g_linked hi re g_active g_ticks g_code b_above b_ownField b_mType b_mName b_mLength b_bytes b_starts b_seen b_done b_heights b_local b_sure b_objType b_objField b_marked b_global b_fMethod b_fPc b_fHigh b_fLocal b_fEntry (by omega) hm hb4 (T0 (fun z => b' ⟨by have := (w.mp z).1; omega, by rw [(yr_2 h (by omega) _ (by omega) (w.mp z).1).2.1]; exact (w.mp z).2.2⟩))))) (fun a hi re => ⟨fun _ => sb_122 g_types g_methods g_place g_result g_linked hi re g_active g_ticks g_code b_above b_ownField b_mType b_mName b_mLength b_bytes b_starts b_seen b_done b_heights b_local b_sure b_objType b_objField b_marked b_global b_fMethod b_fPc b_fHigh b_fLocal b_fEntry (by omega) hm hb4 _ (T0 (fun z => a ⟨by have := (w.mp z).1; omega, (w.mp z).2.1⟩)), fun _ => sb_122 g_types g_methods g_place g_result g_linked hi re g_active g_ticks g_code b_above b_ownField b_mType b_mName b_mLength b_bytes b_starts b_seen b_done b_heights b_local b_sure b_objType b_objField b_marked b_global b_fMethod b_fPc b_fHigh b_fLocal b_fEntry (by omega) hm hb4 _ (T0 (fun z => a ⟨by have := (w.mp z).1; omega, (w.mp z).2.1⟩))⟩)))))))
theorem s35_9 (g_types g_methods g_place g_result g_linked g_active g_ticks g_code : Int32) (b_above b_ownField b_mType b_mName b_mLength b_bytes b_starts : Nat → Int32) (b_seen b_done : Nat → Int64) (b_heights b_local b_sure b_objType b_objField b_marked b_global b_fMethod b_fPc b_fHigh b_fLocal b_fEntry : Nat → Int32) {post : SY → Prop} {m p b nm st h : Nat} (ho : 9 < 21) (hb : b < 256) (hb4 : 9 = 1 ∨ 9 = 2 → b < 4) (hm : m < 8) (eN : b_mName m = nI nm) (hn : nm < 16) (h5 : h ≤ 5) (hr : wy_r st < 2 ^ h) (hl : ∀ s, s < 4 → b_local s = nI (wy_c st s))
    (T1 : wy_ok 9 b nm st h → ∀ (hi re : Int32) (lo : Nat → Int32), hi = nI (wy_h 9 h) → re = nI (wy_nr 9 b st h) → (∀ s, s < 4 → lo s = nI (wy_nl 9 b st h s)) → wY_step_333 post (nI m) (nI p) (nI 9) (nI b) g_types g_methods g_place g_result g_linked 0 hi re g_active g_ticks g_code b_above b_ownField b_mType b_mName b_mLength b_bytes b_starts b_seen b_done b_heights lo b_sure b_objType b_objField b_marked b_global b_fMethod b_fPc b_fHigh b_fLocal b_fEntry)
    (T0 : ¬ wy_ok 9 b nm st h → ∀ (hi re : Int32) (lo : Nat → Int32), post (g_types, g_methods, g_place, g_result, g_linked, 1, hi, re, g_active, g_ticks, g_code, b_above, b_ownField, b_mType, b_mName, b_mLength, b_bytes, b_starts, b_seen, b_done, b_heights, lo, b_sure, b_objType, b_objField, b_marked, b_global, b_fMethod, b_fPc, b_fHigh, b_fLocal, b_fEntry)) :
    wY_step_35 post (nI m) (nI p) (nI 9) (nI b) g_types g_methods g_place g_result g_linked 0 (nI h) (nI (wy_r st)) g_active g_ticks g_code b_above b_ownField b_mType b_mName b_mLength b_bytes b_starts b_seen b_done b_heights b_local b_sure b_objType b_objField b_marked b_global b_fMethod b_fPc b_fHigh b_fLocal b_fEntry := by
  have hp := wy_p5 h (by omega)
  have w := wok2 (o := 9) (b := b) (nm := nm) (st := st) (k1 := 1) (k2 := 1) rfl (by decide) (fun c hc => kd_e4 hc) (fun c hc => kd_e4 hc) h5
  exact br_f (by decide) (br_f (by decide) (br_f (by decide) (br_f (by decide) (br_f (by decide) (br_t (by decide) (ev_need g_types g_methods g_place g_result g_linked g_active g_ticks g_code b_above b_ownField b_mType b_mName b_mLength b_bytes b_starts b_seen b_done b_heights b_local b_sure b_objType b_objField b_marked b_global b_fMethod b_fPc b_fHigh b_fLocal b_fEntry (k := 1) h5 hr (by omega) (fun a1 a2 => br_t (by decide) (ev_need g_types g_methods g_place g_result g_linked g_active g_ticks g_code b_above b_ownField b_mType b_mName b_mLength b_bytes b_starts b_seen b_done b_heights b_local b_sure b_objType b_objField b_marked b_global b_fMethod b_fPc b_fHigh b_fLocal b_fEntry (k := 1) (by omega) (yr_1 h (by omega) _ (by omega) a1) (by omega) (fun b1 b2 => br_f (by decide) (br_f (by decide) (br_f (by decide) (br_t (by decide) (br_f (by decide) (br_f (by decide) (br_f (by decide) (br_f (by decide) (br_t (by decide) (ev_ypush g_types g_methods g_place g_result g_linked g_active g_ticks g_code b_above b_ownField b_mType b_mName b_mLength b_bytes b_starts b_seen b_done b_heights b_local b_sure b_objType b_objField b_marked b_global b_fMethod b_fPc b_fHigh b_fLocal b_fEntry (k := 0) (by omega) (by rw [(yr_2 h (by omega) _ (by omega) (by omega)).2.2]; exact yr_3 h (by omega) _ (by omega) (by omega)) (by omega) (fun _ => T1 (w.mpr ⟨by omega, a2, by rw [← (yr_2 h (by omega) _ (by omega) (by omega)).2.1]; exact b2⟩) _ _ _ (by show nI (h - 1 - 1 + 1) = nI (h - 2 + 1); rw [Nat.sub_sub]) (by rw [(yr_2 h (by omega) _ (by omega) (by omega)).2.2, Nat.sub_sub]; rfl) (fun s hs => by rw [nl_ne (by decide)]; exact hl s hs)) (fun z => absurd (by omega) z))))))))))) (fun b' hi re => sb_125 g_types g_methods g_place g_result g_linked hi re g_active g_ticks g_code b_above b_ownField b_mType b_mName b_mLength b_bytes b_starts b_seen b_done b_heights b_local b_sure b_objType b_objField b_marked b_global b_fMethod b_fPc b_fHigh b_fLocal b_fEntry (by omega) hm hb4 (T0 (fun z => b' ⟨by have := (w.mp z).1; omega, by rw [(yr_2 h (by omega) _ (by omega) (w.mp z).1).2.1]; exact (w.mp z).2.2⟩))))) (fun a hi re => ⟨fun _ => sb_122 g_types g_methods g_place g_result g_linked hi re g_active g_ticks g_code b_above b_ownField b_mType b_mName b_mLength b_bytes b_starts b_seen b_done b_heights b_local b_sure b_objType b_objField b_marked b_global b_fMethod b_fPc b_fHigh b_fLocal b_fEntry (by omega) hm hb4 _ (T0 (fun z => a ⟨by have := (w.mp z).1; omega, (w.mp z).2.1⟩)), fun _ => sb_122 g_types g_methods g_place g_result g_linked hi re g_active g_ticks g_code b_above b_ownField b_mType b_mName b_mLength b_bytes b_starts b_seen b_done b_heights b_local b_sure b_objType b_objField b_marked b_global b_fMethod b_fPc b_fHigh b_fLocal b_fEntry (by omega) hm hb4 _ (T0 (fun z => a ⟨by have := (w.mp z).1; omega, (w.mp z).2.1⟩))⟩)))))))
theorem s35_15 (g_types g_methods g_place g_result g_linked g_active g_ticks g_code : Int32) (b_above b_ownField b_mType b_mName b_mLength b_bytes b_starts : Nat → Int32) (b_seen b_done : Nat → Int64) (b_heights b_local b_sure b_objType b_objField b_marked b_global b_fMethod b_fPc b_fHigh b_fLocal b_fEntry : Nat → Int32) {post : SY → Prop} {m p b nm st h : Nat} (ho : 15 < 21) (hb : b < 256) (hb4 : 15 = 1 ∨ 15 = 2 → b < 4) (hm : m < 8) (eN : b_mName m = nI nm) (hn : nm < 16) (h5 : h ≤ 5) (hr : wy_r st < 2 ^ h) (hl : ∀ s, s < 4 → b_local s = nI (wy_c st s))
    (T1 : wy_ok 15 b nm st h → ∀ (hi re : Int32) (lo : Nat → Int32), hi = nI (wy_h 15 h) → re = nI (wy_nr 15 b st h) → (∀ s, s < 4 → lo s = nI (wy_nl 15 b st h s)) → wY_step_333 post (nI m) (nI p) (nI 15) (nI b) g_types g_methods g_place g_result g_linked 0 hi re g_active g_ticks g_code b_above b_ownField b_mType b_mName b_mLength b_bytes b_starts b_seen b_done b_heights lo b_sure b_objType b_objField b_marked b_global b_fMethod b_fPc b_fHigh b_fLocal b_fEntry)
    (T0 : ¬ wy_ok 15 b nm st h → ∀ (hi re : Int32) (lo : Nat → Int32), post (g_types, g_methods, g_place, g_result, g_linked, 1, hi, re, g_active, g_ticks, g_code, b_above, b_ownField, b_mType, b_mName, b_mLength, b_bytes, b_starts, b_seen, b_done, b_heights, lo, b_sure, b_objType, b_objField, b_marked, b_global, b_fMethod, b_fPc, b_fHigh, b_fLocal, b_fEntry)) :
    wY_step_35 post (nI m) (nI p) (nI 15) (nI b) g_types g_methods g_place g_result g_linked 0 (nI h) (nI (wy_r st)) g_active g_ticks g_code b_above b_ownField b_mType b_mName b_mLength b_bytes b_starts b_seen b_done b_heights b_local b_sure b_objType b_objField b_marked b_global b_fMethod b_fPc b_fHigh b_fLocal b_fEntry := by
  have hp := wy_p5 h (by omega)
  by_cases h8 : b < 8
  · have ev : is_n1 15 b nm = 2 := if_pos h8
    have w := wok2 (o := 15) (b := b) (nm := nm) (st := st) (k1 := 0) (k2 := 1) rfl (by decide) (fun c hc => by rw [ev]; exact kd_e2 hc) (fun c hc => kd_e4 hc) h5
    refine br_f (by decide) (br_f (by decide) (br_f (by decide) (br_f (by decide) (br_t (by decide) (br_f (by decide) (br_t (by decide) (br_t (nI_lt (b := 8) h8 (by decide)) (ev_need g_types g_methods g_place g_result g_linked g_active g_ticks g_code b_above b_ownField b_mType b_mName b_mLength b_bytes b_starts b_seen b_done b_heights b_local b_sure b_objType b_objField b_marked b_global b_fMethod b_fPc b_fHigh b_fLocal b_fEntry (k := 0) h5 hr (by omega) (fun a1 a2 => br_f (by decide) (br_f (by decide) (br_t (by decide) (ev_need g_types g_methods g_place g_result g_linked g_active g_ticks g_code b_above b_ownField b_mType b_mName b_mLength b_bytes b_starts b_seen b_done b_heights b_local b_sure b_objType b_objField b_marked b_global b_fMethod b_fPc b_fHigh b_fLocal b_fEntry (k := 1) (by omega) (yr_1 h (by omega) _ (by omega) a1) (by omega) (fun b1 b2 => br_f (by decide) (br_f (by decide) (br_f (by decide) (br_f (by decide) (br_f (by decide) (br_f (by decide) (br_f (by decide) (br_f (by decide) (br_f (by decide) (br_f (by decide) (br_f (by decide) (?_)))))))))))) (fun b' hi re => sb_203 g_types g_methods g_place g_result g_linked hi re g_active g_ticks g_code b_above b_ownField b_mType b_mName b_mLength b_bytes b_starts b_seen b_done b_heights b_local b_sure b_objType b_objField b_marked b_global b_fMethod b_fPc b_fHigh b_fLocal b_fEntry (by omega) hm hb4 (T0 (fun z => b' ⟨by have := (w.mp z).1; omega, by rw [(yr_2 h (by omega) _ (by omega) (w.mp z).1).2.1]; exact (w.mp z).2.2⟩))))))) (fun a hi re => sb_158 g_types g_methods g_place g_result g_linked hi re g_active g_ticks g_code b_above b_ownField b_mType b_mName b_mLength b_bytes b_starts b_seen b_done b_heights b_local b_sure b_objType b_objField b_marked b_global b_fMethod b_fPc b_fHigh b_fLocal b_fEntry (by omega) hm hb4 (T0 (fun z => a ⟨by have := (w.mp z).1; omega, (w.mp z).2.1⟩)))))))))))
    exact T1 (w.mpr ⟨by omega, a2, by rw [← (yr_2 h (by omega) _ (by omega) (by omega)).2.1]; exact b2⟩) _ _ _ (by show nI (h - 1 - 1) = nI (h - 2); rw [Nat.sub_sub]) (by rw [(yr_2 h (by omega) _ (by omega) (by omega)).2.2]; rfl) (fun s hs => by rw [nl_ne (by decide)]; exact hl s hs)
  · have ev : is_n1 15 b nm = 4 := if_neg h8
    have w := wok2 (o := 15) (b := b) (nm := nm) (st := st) (k1 := 1) (k2 := 1) rfl (by decide) (fun c hc => by rw [ev]; exact kd_e4 hc) (fun c hc => kd_e4 hc) h5
    refine br_f (by decide) (br_f (by decide) (br_f (by decide) (br_f (by decide) (br_t (by decide) (br_f (by decide) (br_t (by decide) (br_f (nI_nlt (b := 8) (by omega) (by omega)) (ev_need g_types g_methods g_place g_result g_linked g_active g_ticks g_code b_above b_ownField b_mType b_mName b_mLength b_bytes b_starts b_seen b_done b_heights b_local b_sure b_objType b_objField b_marked b_global b_fMethod b_fPc b_fHigh b_fLocal b_fEntry (k := 1) h5 hr (by omega) (fun a1 a2 => br_f (by decide) (br_f (by decide) (br_t (by decide) (ev_need g_types g_methods g_place g_result g_linked g_active g_ticks g_code b_above b_ownField b_mType b_mName b_mLength b_bytes b_starts b_seen b_done b_heights b_local b_sure b_objType b_objField b_marked b_global b_fMethod b_fPc b_fHigh b_fLocal b_fEntry (k := 1) (by omega) (yr_1 h (by omega) _ (by omega) a1) (by omega) (fun b1 b2 => br_f (by decide) (br_f (by decide) (br_f (by decide) (br_f (by decide) (br_f (by decide) (br_f (by decide) (br_f (by decide) (br_f (by decide) (br_f (by decide) (br_f (by decide) (br_f (by decide) (?_)))))))))))) (fun b' hi re => sb_203 g_types g_methods g_place g_result g_linked hi re g_active g_ticks g_code b_above b_ownField b_mType b_mName b_mLength b_bytes b_starts b_seen b_done b_heights b_local b_sure b_objType b_objField b_marked b_global b_fMethod b_fPc b_fHigh b_fLocal b_fEntry (by omega) hm hb4 (T0 (fun z => b' ⟨by have := (w.mp z).1; omega, by rw [(yr_2 h (by omega) _ (by omega) (w.mp z).1).2.1]; exact (w.mp z).2.2⟩))))))) (fun a hi re => sb_158 g_types g_methods g_place g_result g_linked hi re g_active g_ticks g_code b_above b_ownField b_mType b_mName b_mLength b_bytes b_starts b_seen b_done b_heights b_local b_sure b_objType b_objField b_marked b_global b_fMethod b_fPc b_fHigh b_fLocal b_fEntry (by omega) hm hb4 (T0 (fun z => a ⟨by have := (w.mp z).1; omega, (w.mp z).2.1⟩)))))))))))
    exact T1 (w.mpr ⟨by omega, a2, by rw [← (yr_2 h (by omega) _ (by omega) (by omega)).2.1]; exact b2⟩) _ _ _ (by show nI (h - 1 - 1) = nI (h - 2); rw [Nat.sub_sub]) (by rw [(yr_2 h (by omega) _ (by omega) (by omega)).2.2]; rfl) (fun s hs => by rw [nl_ne (by decide)]; exact hl s hs)
theorem s35_16 (g_types g_methods g_place g_result g_linked g_active g_ticks g_code : Int32) (b_above b_ownField b_mType b_mName b_mLength b_bytes b_starts : Nat → Int32) (b_seen b_done : Nat → Int64) (b_heights b_local b_sure b_objType b_objField b_marked b_global b_fMethod b_fPc b_fHigh b_fLocal b_fEntry : Nat → Int32) {post : SY → Prop} {m p b nm st h : Nat} (ho : 16 < 21) (hb : b < 256) (hb4 : 16 = 1 ∨ 16 = 2 → b < 4) (hm : m < 8) (eN : b_mName m = nI nm) (hn : nm < 16) (h5 : h ≤ 5) (hr : wy_r st < 2 ^ h) (hl : ∀ s, s < 4 → b_local s = nI (wy_c st s))
    (T1 : wy_ok 16 b nm st h → ∀ (hi re : Int32) (lo : Nat → Int32), hi = nI (wy_h 16 h) → re = nI (wy_nr 16 b st h) → (∀ s, s < 4 → lo s = nI (wy_nl 16 b st h s)) → wY_step_333 post (nI m) (nI p) (nI 16) (nI b) g_types g_methods g_place g_result g_linked 0 hi re g_active g_ticks g_code b_above b_ownField b_mType b_mName b_mLength b_bytes b_starts b_seen b_done b_heights lo b_sure b_objType b_objField b_marked b_global b_fMethod b_fPc b_fHigh b_fLocal b_fEntry)
    (T0 : ¬ wy_ok 16 b nm st h → ∀ (hi re : Int32) (lo : Nat → Int32), post (g_types, g_methods, g_place, g_result, g_linked, 1, hi, re, g_active, g_ticks, g_code, b_above, b_ownField, b_mType, b_mName, b_mLength, b_bytes, b_starts, b_seen, b_done, b_heights, lo, b_sure, b_objType, b_objField, b_marked, b_global, b_fMethod, b_fPc, b_fHigh, b_fLocal, b_fEntry)) :
    wY_step_35 post (nI m) (nI p) (nI 16) (nI b) g_types g_methods g_place g_result g_linked 0 (nI h) (nI (wy_r st)) g_active g_ticks g_code b_above b_ownField b_mType b_mName b_mLength b_bytes b_starts b_seen b_done b_heights b_local b_sure b_objType b_objField b_marked b_global b_fMethod b_fPc b_fHigh b_fLocal b_fEntry := by
  have hp := wy_p5 h (by omega)
  by_cases h8 : b < 8
  · have eg : wy_g 16 b st = 0 := by
      have e : is_gk 16 b = 2 := if_pos h8
      unfold wy_g; rw [e]; rfl
    by_cases h4 : b / 4 % 2 = 0
    · have ev : is_n1 16 b nm = 2 := if_pos h4
      have w := wok2 (o := 16) (b := b) (nm := nm) (st := st) (k1 := 0) (k2 := 1) rfl (by decide) (fun c hc => by rw [ev]; exact kd_e2 hc) (fun c hc => kd_e4 hc) h5
      exact br_f (by decide) (br_f (by decide) (br_f (by decide) (br_f (by decide) (br_t (by decide) (br_f (by decide) (br_f (by decide) (br_t (by decide) (br_t ((gk_and4 b hb).mpr h4) (ev_need g_types g_methods g_place g_result g_linked g_active g_ticks g_code b_above b_ownField b_mType b_mName b_mLength b_bytes b_starts b_seen b_done b_heights b_local b_sure b_objType b_objField b_marked b_global b_fMethod b_fPc b_fHigh b_fLocal b_fEntry (k := 0) h5 hr (by omega) (fun a1 a2 => br_f (by decide) (br_t (by decide) (ev_need g_types g_methods g_place g_result g_linked g_active g_ticks g_code b_above b_ownField b_mType b_mName b_mLength b_bytes b_starts b_seen b_done b_heights b_local b_sure b_objType b_objField b_marked b_global b_fMethod b_fPc b_fHigh b_fLocal b_fEntry (k := 1) (by omega) (yr_1 h (by omega) _ (by omega) a1) (by omega) (fun b1 b2 => br_f (by decide) (br_f (by decide) (br_f (by decide) (br_f (by decide) (br_f (by decide) (br_f (by decide) (br_f (by decide) (br_f (by decide) (br_f (by decide) (br_f (by decide) (br_t (by decide) (br_t (nI_lt (b := 8) h8 (by decide)) (ev_ypush g_types g_methods g_place g_result g_linked g_active g_ticks g_code b_above b_ownField b_mType b_mName b_mLength b_bytes b_starts b_seen b_done b_heights b_local b_sure b_objType b_objField b_marked b_global b_fMethod b_fPc b_fHigh b_fLocal b_fEntry (k := 0) (by omega) (by rw [(yr_2 h (by omega) _ (by omega) (by omega)).2.2]; exact yr_3 h (by omega) _ (by omega) (by omega)) (by omega) (fun _ => T1 (w.mpr ⟨by omega, a2, by rw [← (yr_2 h (by omega) _ (by omega) (by omega)).2.1]; exact b2⟩) _ _ _ (by show nI (h - 1 - 1 + 1) = nI (h - 2 + 1); rw [Nat.sub_sub]) (by rw [(yr_2 h (by omega) _ (by omega) (by omega)).2.2, Nat.sub_sub]; unfold wy_nr; rw [eg]; rfl) (fun s hs => by rw [nl_ne (by decide)]; exact hl s hs)) (fun z => absurd (by omega) z)))))))))))))) (fun b' hi re => sb_203 g_types g_methods g_place g_result g_linked hi re g_active g_ticks g_code b_above b_ownField b_mType b_mName b_mLength b_bytes b_starts b_seen b_done b_heights b_local b_sure b_objType b_objField b_marked b_global b_fMethod b_fPc b_fHigh b_fLocal b_fEntry (by omega) hm hb4 (T0 (fun z => b' ⟨by have := (w.mp z).1; omega, by rw [(yr_2 h (by omega) _ (by omega) (w.mp z).1).2.1]; exact (w.mp z).2.2⟩)))))) (fun a hi re => sb_180 g_types g_methods g_place g_result g_linked hi re g_active g_ticks g_code b_above b_ownField b_mType b_mName b_mLength b_bytes b_starts b_seen b_done b_heights b_local b_sure b_objType b_objField b_marked b_global b_fMethod b_fPc b_fHigh b_fLocal b_fEntry (by omega) hm hb4 (T0 (fun z => a ⟨by have := (w.mp z).1; omega, (w.mp z).2.1⟩))))))))))))
    · have ev : is_n1 16 b nm = 4 := if_neg h4
      have w := wok2 (o := 16) (b := b) (nm := nm) (st := st) (k1 := 1) (k2 := 1) rfl (by decide) (fun c hc => by rw [ev]; exact kd_e4 hc) (fun c hc => kd_e4 hc) h5
      exact br_f (by decide) (br_f (by decide) (br_f (by decide) (br_f (by decide) (br_t (by decide) (br_f (by decide) (br_f (by decide) (br_t (by decide) (br_f (fun z => h4 ((gk_and4 b hb).mp z)) (ev_need g_types g_methods g_place g_result g_linked g_active g_ticks g_code b_above b_ownField b_mType b_mName b_mLength b_bytes b_starts b_seen b_done b_heights b_local b_sure b_objType b_objField b_marked b_global b_fMethod b_fPc b_fHigh b_fLocal b_fEntry (k := 1) h5 hr (by omega) (fun a1 a2 => br_f (by decide) (br_t (by decide) (ev_need g_types g_methods g_place g_result g_linked g_active g_ticks g_code b_above b_ownField b_mType b_mName b_mLength b_bytes b_starts b_seen b_done b_heights b_local b_sure b_objType b_objField b_marked b_global b_fMethod b_fPc b_fHigh b_fLocal b_fEntry (k := 1) (by omega) (yr_1 h (by omega) _ (by omega) a1) (by omega) (fun b1 b2 => br_f (by decide) (br_f (by decide) (br_f (by decide) (br_f (by decide) (br_f (by decide) (br_f (by decide) (br_f (by decide) (br_f (by decide) (br_f (by decide) (br_f (by decide) (br_t (by decide) (br_t (nI_lt (b := 8) h8 (by decide)) (ev_ypush g_types g_methods g_place g_result g_linked g_active g_ticks g_code b_above b_ownField b_mType b_mName b_mLength b_bytes b_starts b_seen b_done b_heights b_local b_sure b_objType b_objField b_marked b_global b_fMethod b_fPc b_fHigh b_fLocal b_fEntry (k := 0) (by omega) (by rw [(yr_2 h (by omega) _ (by omega) (by omega)).2.2]; exact yr_3 h (by omega) _ (by omega) (by omega)) (by omega) (fun _ => T1 (w.mpr ⟨by omega, a2, by rw [← (yr_2 h (by omega) _ (by omega) (by omega)).2.1]; exact b2⟩) _ _ _ (by show nI (h - 1 - 1 + 1) = nI (h - 2 + 1); rw [Nat.sub_sub]) (by rw [(yr_2 h (by omega) _ (by omega) (by omega)).2.2, Nat.sub_sub]; unfold wy_nr; rw [eg]; rfl) (fun s hs => by rw [nl_ne (by decide)]; exact hl s hs)) (fun z => absurd (by omega) z)))))))))))))) (fun b' hi re => sb_203 g_types g_methods g_place g_result g_linked hi re g_active g_ticks g_code b_above b_ownField b_mType b_mName b_mLength b_bytes b_starts b_seen b_done b_heights b_local b_sure b_objType b_objField b_marked b_global b_fMethod b_fPc b_fHigh b_fLocal b_fEntry (by omega) hm hb4 (T0 (fun z => b' ⟨by have := (w.mp z).1; omega, by rw [(yr_2 h (by omega) _ (by omega) (w.mp z).1).2.1]; exact (w.mp z).2.2⟩)))))) (fun a hi re => sb_180 g_types g_methods g_place g_result g_linked hi re g_active g_ticks g_code b_above b_ownField b_mType b_mName b_mLength b_bytes b_starts b_seen b_done b_heights b_local b_sure b_objType b_objField b_marked b_global b_fMethod b_fPc b_fHigh b_fLocal b_fEntry (by omega) hm hb4 (T0 (fun z => a ⟨by have := (w.mp z).1; omega, (w.mp z).2.1⟩))))))))))))
  · have eg : wy_g 16 b st = 1 := by
      have e : is_gk 16 b = 4 := if_neg h8
      unfold wy_g; rw [e]; rfl
    by_cases h4 : b / 4 % 2 = 0
    · have ev : is_n1 16 b nm = 2 := if_pos h4
      have w := wok2 (o := 16) (b := b) (nm := nm) (st := st) (k1 := 0) (k2 := 1) rfl (by decide) (fun c hc => by rw [ev]; exact kd_e2 hc) (fun c hc => kd_e4 hc) h5
      exact br_f (by decide) (br_f (by decide) (br_f (by decide) (br_f (by decide) (br_t (by decide) (br_f (by decide) (br_f (by decide) (br_t (by decide) (br_t ((gk_and4 b hb).mpr h4) (ev_need g_types g_methods g_place g_result g_linked g_active g_ticks g_code b_above b_ownField b_mType b_mName b_mLength b_bytes b_starts b_seen b_done b_heights b_local b_sure b_objType b_objField b_marked b_global b_fMethod b_fPc b_fHigh b_fLocal b_fEntry (k := 0) h5 hr (by omega) (fun a1 a2 => br_f (by decide) (br_t (by decide) (ev_need g_types g_methods g_place g_result g_linked g_active g_ticks g_code b_above b_ownField b_mType b_mName b_mLength b_bytes b_starts b_seen b_done b_heights b_local b_sure b_objType b_objField b_marked b_global b_fMethod b_fPc b_fHigh b_fLocal b_fEntry (k := 1) (by omega) (yr_1 h (by omega) _ (by omega) a1) (by omega) (fun b1 b2 => br_f (by decide) (br_f (by decide) (br_f (by decide) (br_f (by decide) (br_f (by decide) (br_f (by decide) (br_f (by decide) (br_f (by decide) (br_f (by decide) (br_f (by decide) (br_t (by decide) (br_f (nI_nlt (b := 8) (by omega) (by omega)) (ev_ypush g_types g_methods g_place g_result g_linked g_active g_ticks g_code b_above b_ownField b_mType b_mName b_mLength b_bytes b_starts b_seen b_done b_heights b_local b_sure b_objType b_objField b_marked b_global b_fMethod b_fPc b_fHigh b_fLocal b_fEntry (k := 1) (by omega) (by rw [(yr_2 h (by omega) _ (by omega) (by omega)).2.2]; exact yr_3 h (by omega) _ (by omega) (by omega)) (by omega) (fun _ => T1 (w.mpr ⟨by omega, a2, by rw [← (yr_2 h (by omega) _ (by omega) (by omega)).2.1]; exact b2⟩) _ _ _ (by show nI (h - 1 - 1 + 1) = nI (h - 2 + 1); rw [Nat.sub_sub]) (by rw [(yr_2 h (by omega) _ (by omega) (by omega)).2.2, Nat.sub_sub]; unfold wy_nr; rw [eg]; rfl) (fun s hs => by rw [nl_ne (by decide)]; exact hl s hs)) (fun z => absurd (by omega) z)))))))))))))) (fun b' hi re => sb_203 g_types g_methods g_place g_result g_linked hi re g_active g_ticks g_code b_above b_ownField b_mType b_mName b_mLength b_bytes b_starts b_seen b_done b_heights b_local b_sure b_objType b_objField b_marked b_global b_fMethod b_fPc b_fHigh b_fLocal b_fEntry (by omega) hm hb4 (T0 (fun z => b' ⟨by have := (w.mp z).1; omega, by rw [(yr_2 h (by omega) _ (by omega) (w.mp z).1).2.1]; exact (w.mp z).2.2⟩)))))) (fun a hi re => sb_180 g_types g_methods g_place g_result g_linked hi re g_active g_ticks g_code b_above b_ownField b_mType b_mName b_mLength b_bytes b_starts b_seen b_done b_heights b_local b_sure b_objType b_objField b_marked b_global b_fMethod b_fPc b_fHigh b_fLocal b_fEntry (by omega) hm hb4 (T0 (fun z => a ⟨by have := (w.mp z).1; omega, (w.mp z).2.1⟩))))))))))))
    · have ev : is_n1 16 b nm = 4 := if_neg h4
      have w := wok2 (o := 16) (b := b) (nm := nm) (st := st) (k1 := 1) (k2 := 1) rfl (by decide) (fun c hc => by rw [ev]; exact kd_e4 hc) (fun c hc => kd_e4 hc) h5
      exact br_f (by decide) (br_f (by decide) (br_f (by decide) (br_f (by decide) (br_t (by decide) (br_f (by decide) (br_f (by decide) (br_t (by decide) (br_f (fun z => h4 ((gk_and4 b hb).mp z)) (ev_need g_types g_methods g_place g_result g_linked g_active g_ticks g_code b_above b_ownField b_mType b_mName b_mLength b_bytes b_starts b_seen b_done b_heights b_local b_sure b_objType b_objField b_marked b_global b_fMethod b_fPc b_fHigh b_fLocal b_fEntry (k := 1) h5 hr (by omega) (fun a1 a2 => br_f (by decide) (br_t (by decide) (ev_need g_types g_methods g_place g_result g_linked g_active g_ticks g_code b_above b_ownField b_mType b_mName b_mLength b_bytes b_starts b_seen b_done b_heights b_local b_sure b_objType b_objField b_marked b_global b_fMethod b_fPc b_fHigh b_fLocal b_fEntry (k := 1) (by omega) (yr_1 h (by omega) _ (by omega) a1) (by omega) (fun b1 b2 => br_f (by decide) (br_f (by decide) (br_f (by decide) (br_f (by decide) (br_f (by decide) (br_f (by decide) (br_f (by decide) (br_f (by decide) (br_f (by decide) (br_f (by decide) (br_t (by decide) (br_f (nI_nlt (b := 8) (by omega) (by omega)) (ev_ypush g_types g_methods g_place g_result g_linked g_active g_ticks g_code b_above b_ownField b_mType b_mName b_mLength b_bytes b_starts b_seen b_done b_heights b_local b_sure b_objType b_objField b_marked b_global b_fMethod b_fPc b_fHigh b_fLocal b_fEntry (k := 1) (by omega) (by rw [(yr_2 h (by omega) _ (by omega) (by omega)).2.2]; exact yr_3 h (by omega) _ (by omega) (by omega)) (by omega) (fun _ => T1 (w.mpr ⟨by omega, a2, by rw [← (yr_2 h (by omega) _ (by omega) (by omega)).2.1]; exact b2⟩) _ _ _ (by show nI (h - 1 - 1 + 1) = nI (h - 2 + 1); rw [Nat.sub_sub]) (by rw [(yr_2 h (by omega) _ (by omega) (by omega)).2.2, Nat.sub_sub]; unfold wy_nr; rw [eg]; rfl) (fun s hs => by rw [nl_ne (by decide)]; exact hl s hs)) (fun z => absurd (by omega) z)))))))))))))) (fun b' hi re => sb_203 g_types g_methods g_place g_result g_linked hi re g_active g_ticks g_code b_above b_ownField b_mType b_mName b_mLength b_bytes b_starts b_seen b_done b_heights b_local b_sure b_objType b_objField b_marked b_global b_fMethod b_fPc b_fHigh b_fLocal b_fEntry (by omega) hm hb4 (T0 (fun z => b' ⟨by have := (w.mp z).1; omega, by rw [(yr_2 h (by omega) _ (by omega) (w.mp z).1).2.1]; exact (w.mp z).2.2⟩)))))) (fun a hi re => sb_180 g_types g_methods g_place g_result g_linked hi re g_active g_ticks g_code b_above b_ownField b_mType b_mName b_mLength b_bytes b_starts b_seen b_done b_heights b_local b_sure b_objType b_objField b_marked b_global b_fMethod b_fPc b_fHigh b_fLocal b_fEntry (by omega) hm hb4 (T0 (fun z => a ⟨by have := (w.mp z).1; omega, (w.mp z).2.1⟩))))))))))))
theorem s35_14 (g_types g_methods g_place g_result g_linked g_active g_ticks g_code : Int32) (b_above b_ownField b_mType b_mName b_mLength b_bytes b_starts : Nat → Int32) (b_seen b_done : Nat → Int64) (b_heights b_local b_sure b_objType b_objField b_marked b_global b_fMethod b_fPc b_fHigh b_fLocal b_fEntry : Nat → Int32) {post : SY → Prop} {m p b nm st h : Nat} (ho : 14 < 21) (hb : b < 256) (hb4 : 14 = 1 ∨ 14 = 2 → b < 4) (hm : m < 8) (eN : b_mName m = nI nm) (hn : nm < 16) (h5 : h ≤ 5) (hr : wy_r st < 2 ^ h) (hl : ∀ s, s < 4 → b_local s = nI (wy_c st s))
    (T1 : wy_ok 14 b nm st h → ∀ (hi re : Int32) (lo : Nat → Int32), hi = nI (wy_h 14 h) → re = nI (wy_nr 14 b st h) → (∀ s, s < 4 → lo s = nI (wy_nl 14 b st h s)) → wY_step_333 post (nI m) (nI p) (nI 14) (nI b) g_types g_methods g_place g_result g_linked 0 hi re g_active g_ticks g_code b_above b_ownField b_mType b_mName b_mLength b_bytes b_starts b_seen b_done b_heights lo b_sure b_objType b_objField b_marked b_global b_fMethod b_fPc b_fHigh b_fLocal b_fEntry)
    (T0 : ¬ wy_ok 14 b nm st h → ∀ (hi re : Int32) (lo : Nat → Int32), post (g_types, g_methods, g_place, g_result, g_linked, 1, hi, re, g_active, g_ticks, g_code, b_above, b_ownField, b_mType, b_mName, b_mLength, b_bytes, b_starts, b_seen, b_done, b_heights, lo, b_sure, b_objType, b_objField, b_marked, b_global, b_fMethod, b_fPc, b_fHigh, b_fLocal, b_fEntry)) :
    wY_step_35 post (nI m) (nI p) (nI 14) (nI b) g_types g_methods g_place g_result g_linked 0 (nI h) (nI (wy_r st)) g_active g_ticks g_code b_above b_ownField b_mType b_mName b_mLength b_bytes b_starts b_seen b_done b_heights b_local b_sure b_objType b_objField b_marked b_global b_fMethod b_fPc b_fHigh b_fLocal b_fEntry := by
  have hp := wy_p5 h (by omega)
  have w := wok1 (o := 14) (b := b) (nm := nm) (st := st) (k1 := 1) rfl (by decide) (fun c hc => kd_e4 hc) h5
  by_cases h8 : b < 8
  · have eg : wy_g 14 b st = 0 := by
      have e : is_gk 14 b = 2 := if_pos h8
      unfold wy_g; rw [e]; rfl
    exact br_f (by decide) (br_f (by decide) (br_f (by decide) (br_f (by decide) (br_t (by decide) (br_f (by decide) (br_f (by decide) (br_f (by decide) (br_f (by decide) (br_t (by decide) (ev_need g_types g_methods g_place g_result g_linked g_active g_ticks g_code b_above b_ownField b_mType b_mName b_mLength b_bytes b_starts b_seen b_done b_heights b_local b_sure b_objType b_objField b_marked b_global b_fMethod b_fPc b_fHigh b_fLocal b_fEntry (k := 1) h5 hr (by omega) (fun a1 a2 => br_f (by decide) (br_f (by decide) (br_f (by decide) (br_f (by decide) (br_f (by decide) (br_f (by decide) (br_f (by decide) (br_f (by decide) (br_f (by decide) (br_t (by decide) (br_t (nI_lt (b := 8) h8 (by decide)) (ev_ypush g_types g_methods g_place g_result g_linked g_active g_ticks g_code b_above b_ownField b_mType b_mName b_mLength b_bytes b_starts b_seen b_done b_heights b_local b_sure b_objType b_objField b_marked b_global b_fMethod b_fPc b_fHigh b_fLocal b_fEntry (k := 0) (by omega) (yr_1 h (by omega) _ (by omega) a1) (by omega) (fun _ => T1 (w.mpr ⟨a1, a2⟩) _ _ _ rfl (by unfold wy_nr; rw [eg]; rfl) (fun s hs => by rw [nl_ne (by decide)]; exact hl s hs)) (fun z => absurd (by omega) z))))))))))))) (fun a hi re => sb_203 g_types g_methods g_place g_result g_linked hi re g_active g_ticks g_code b_above b_ownField b_mType b_mName b_mLength b_bytes b_starts b_seen b_done b_heights b_local b_sure b_objType b_objField b_marked b_global b_fMethod b_fPc b_fHigh b_fLocal b_fEntry (by omega) hm hb4 (T0 (fun z => a ⟨by have := (w.mp z).1; omega, (w.mp z).2⟩)))))))))))))
  · have eg : wy_g 14 b st = 1 := by
      have e : is_gk 14 b = 4 := if_neg h8
      unfold wy_g; rw [e]; rfl
    exact br_f (by decide) (br_f (by decide) (br_f (by decide) (br_f (by decide) (br_t (by decide) (br_f (by decide) (br_f (by decide) (br_f (by decide) (br_f (by decide) (br_t (by decide) (ev_need g_types g_methods g_place g_result g_linked g_active g_ticks g_code b_above b_ownField b_mType b_mName b_mLength b_bytes b_starts b_seen b_done b_heights b_local b_sure b_objType b_objField b_marked b_global b_fMethod b_fPc b_fHigh b_fLocal b_fEntry (k := 1) h5 hr (by omega) (fun a1 a2 => br_f (by decide) (br_f (by decide) (br_f (by decide) (br_f (by decide) (br_f (by decide) (br_f (by decide) (br_f (by decide) (br_f (by decide) (br_f (by decide) (br_t (by decide) (br_f (nI_nlt (b := 8) (by omega) (by omega)) (ev_ypush g_types g_methods g_place g_result g_linked g_active g_ticks g_code b_above b_ownField b_mType b_mName b_mLength b_bytes b_starts b_seen b_done b_heights b_local b_sure b_objType b_objField b_marked b_global b_fMethod b_fPc b_fHigh b_fLocal b_fEntry (k := 1) (by omega) (yr_1 h (by omega) _ (by omega) a1) (by omega) (fun _ => T1 (w.mpr ⟨a1, a2⟩) _ _ _ rfl (by unfold wy_nr; rw [eg]; rfl) (fun s hs => by rw [nl_ne (by decide)]; exact hl s hs)) (fun z => absurd (by omega) z))))))))))))) (fun a hi re => sb_203 g_types g_methods g_place g_result g_linked hi re g_active g_ticks g_code b_above b_ownField b_mType b_mName b_mLength b_bytes b_starts b_seen b_done b_heights b_local b_sure b_objType b_objField b_marked b_global b_fMethod b_fPc b_fHigh b_fLocal b_fEntry (by omega) hm hb4 (T0 (fun z => a ⟨by have := (w.mp z).1; omega, (w.mp z).2⟩)))))))))))))
theorem s35_17 (g_types g_methods g_place g_result g_linked g_active g_ticks g_code : Int32) (b_above b_ownField b_mType b_mName b_mLength b_bytes b_starts : Nat → Int32) (b_seen b_done : Nat → Int64) (b_heights b_local b_sure b_objType b_objField b_marked b_global b_fMethod b_fPc b_fHigh b_fLocal b_fEntry : Nat → Int32) {post : SY → Prop} {m p b nm st h : Nat} (ho : 17 < 21) (hb : b < 256) (hb4 : 17 = 1 ∨ 17 = 2 → b < 4) (hm : m < 8) (eN : b_mName m = nI nm) (hn : nm < 16) (h5 : h ≤ 5) (hr : wy_r st < 2 ^ h) (hl : ∀ s, s < 4 → b_local s = nI (wy_c st s))
    (T1 : wy_ok 17 b nm st h → ∀ (hi re : Int32) (lo : Nat → Int32), hi = nI (wy_h 17 h) → re = nI (wy_nr 17 b st h) → (∀ s, s < 4 → lo s = nI (wy_nl 17 b st h s)) → wY_step_333 post (nI m) (nI p) (nI 17) (nI b) g_types g_methods g_place g_result g_linked 0 hi re g_active g_ticks g_code b_above b_ownField b_mType b_mName b_mLength b_bytes b_starts b_seen b_done b_heights lo b_sure b_objType b_objField b_marked b_global b_fMethod b_fPc b_fHigh b_fLocal b_fEntry)
    (T0 : ¬ wy_ok 17 b nm st h → ∀ (hi re : Int32) (lo : Nat → Int32), post (g_types, g_methods, g_place, g_result, g_linked, 1, hi, re, g_active, g_ticks, g_code, b_above, b_ownField, b_mType, b_mName, b_mLength, b_bytes, b_starts, b_seen, b_done, b_heights, lo, b_sure, b_objType, b_objField, b_marked, b_global, b_fMethod, b_fPc, b_fHigh, b_fLocal, b_fEntry)) :
    wY_step_35 post (nI m) (nI p) (nI 17) (nI b) g_types g_methods g_place g_result g_linked 0 (nI h) (nI (wy_r st)) g_active g_ticks g_code b_above b_ownField b_mType b_mName b_mLength b_bytes b_starts b_seen b_done b_heights b_local b_sure b_objType b_objField b_marked b_global b_fMethod b_fPc b_fHigh b_fLocal b_fEntry := by
  have hp := wy_p5 h (by omega)
  have w := wok1 (o := 17) (b := b) (nm := nm) (st := st) (k1 := 1) rfl (by decide) (fun c hc => kd_e4 hc) h5
  exact br_f (by decide) (br_f (by decide) (br_f (by decide) (br_f (by decide) (br_t (by decide) (br_f (by decide) (br_f (by decide) (br_f (by decide) (br_f (by decide) (br_t (by decide) (ev_need g_types g_methods g_place g_result g_linked g_active g_ticks g_code b_above b_ownField b_mType b_mName b_mLength b_bytes b_starts b_seen b_done b_heights b_local b_sure b_objType b_objField b_marked b_global b_fMethod b_fPc b_fHigh b_fLocal b_fEntry (k := 1) h5 hr (by omega) (fun a1 a2 => br_f (by decide) (br_f (by decide) (br_f (by decide) (br_f (by decide) (br_t (by decide) (ev_ypush g_types g_methods g_place g_result g_linked g_active g_ticks g_code b_above b_ownField b_mType b_mName b_mLength b_bytes b_starts b_seen b_done b_heights b_local b_sure b_objType b_objField b_marked b_global b_fMethod b_fPc b_fHigh b_fLocal b_fEntry (k := 0) (by omega) (yr_1 h (by omega) _ (by omega) a1) (by omega) (fun _ => T1 (w.mpr ⟨a1, a2⟩) _ _ _ rfl (by rfl) (fun s hs => by rw [nl_ne (by decide)]; exact hl s hs)) (fun z => absurd (by omega) z))))))) (fun a hi re => sb_203 g_types g_methods g_place g_result g_linked hi re g_active g_ticks g_code b_above b_ownField b_mType b_mName b_mLength b_bytes b_starts b_seen b_done b_heights b_local b_sure b_objType b_objField b_marked b_global b_fMethod b_fPc b_fHigh b_fLocal b_fEntry (by omega) hm hb4 (T0 (fun z => a ⟨by have := (w.mp z).1; omega, (w.mp z).2⟩)))))))))))))
theorem s35_20 (g_types g_methods g_place g_result g_linked g_active g_ticks g_code : Int32) (b_above b_ownField b_mType b_mName b_mLength b_bytes b_starts : Nat → Int32) (b_seen b_done : Nat → Int64) (b_heights b_local b_sure b_objType b_objField b_marked b_global b_fMethod b_fPc b_fHigh b_fLocal b_fEntry : Nat → Int32) {post : SY → Prop} {m p b nm st h : Nat} (ho : 20 < 21) (hb : b < 256) (hb4 : 20 = 1 ∨ 20 = 2 → b < 4) (hm : m < 8) (eN : b_mName m = nI nm) (hn : nm < 16) (h5 : h ≤ 5) (hr : wy_r st < 2 ^ h) (hl : ∀ s, s < 4 → b_local s = nI (wy_c st s))
    (T1 : wy_ok 20 b nm st h → ∀ (hi re : Int32) (lo : Nat → Int32), hi = nI (wy_h 20 h) → re = nI (wy_nr 20 b st h) → (∀ s, s < 4 → lo s = nI (wy_nl 20 b st h s)) → wY_step_333 post (nI m) (nI p) (nI 20) (nI b) g_types g_methods g_place g_result g_linked 0 hi re g_active g_ticks g_code b_above b_ownField b_mType b_mName b_mLength b_bytes b_starts b_seen b_done b_heights lo b_sure b_objType b_objField b_marked b_global b_fMethod b_fPc b_fHigh b_fLocal b_fEntry)
    (T0 : ¬ wy_ok 20 b nm st h → ∀ (hi re : Int32) (lo : Nat → Int32), post (g_types, g_methods, g_place, g_result, g_linked, 1, hi, re, g_active, g_ticks, g_code, b_above, b_ownField, b_mType, b_mName, b_mLength, b_bytes, b_starts, b_seen, b_done, b_heights, lo, b_sure, b_objType, b_objField, b_marked, b_global, b_fMethod, b_fPc, b_fHigh, b_fLocal, b_fEntry)) :
    wY_step_35 post (nI m) (nI p) (nI 20) (nI b) g_types g_methods g_place g_result g_linked 0 (nI h) (nI (wy_r st)) g_active g_ticks g_code b_above b_ownField b_mType b_mName b_mLength b_bytes b_starts b_seen b_done b_heights b_local b_sure b_objType b_objField b_marked b_global b_fMethod b_fPc b_fHigh b_fLocal b_fEntry := by
  have hp := wy_p5 h (by omega)
  have w := wok1 (o := 20) (b := b) (nm := nm) (st := st) (k1 := 1) rfl (by decide) (fun c hc => kd_e4 hc) h5
  refine br_f (by decide) (br_f (by decide) (br_f (by decide) (br_f (by decide) (br_t (by decide) (br_f (by decide) (br_f (by decide) (br_f (by decide) (br_f (by decide) (br_f (by decide) (br_t (by decide) (ev_need g_types g_methods g_place g_result g_linked g_active g_ticks g_code b_above b_ownField b_mType b_mName b_mLength b_bytes b_starts b_seen b_done b_heights b_local b_sure b_objType b_objField b_marked b_global b_fMethod b_fPc b_fHigh b_fLocal b_fEntry (k := 1) h5 hr (by omega) (fun a1 a2 => br_f (by decide) (br_f (by decide) (br_f (by decide) (br_f (by decide) (br_f (by decide) (br_f (by decide) (br_f (by decide) (br_f (by decide) (br_f (by decide) (br_f (by decide) (br_f (by decide) (?_)))))))))))) (fun a hi re => sb_203 g_types g_methods g_place g_result g_linked hi re g_active g_ticks g_code b_above b_ownField b_mType b_mName b_mLength b_bytes b_starts b_seen b_done b_heights b_local b_sure b_objType b_objField b_marked b_global b_fMethod b_fPc b_fHigh b_fLocal b_fEntry (by omega) hm hb4 (T0 (fun z => a ⟨by have := (w.mp z).1; omega, (w.mp z).2⟩))))))))))))))
  exact T1 (w.mpr ⟨a1, a2⟩) _ _ _ rfl rfl (fun s hs => by rw [nl_ne (by decide)]; exact hl s hs)
theorem s35_11 (g_types g_methods g_place g_result g_linked g_active g_ticks g_code : Int32) (b_above b_ownField b_mType b_mName b_mLength b_bytes b_starts : Nat → Int32) (b_seen b_done : Nat → Int64) (b_heights b_local b_sure b_objType b_objField b_marked b_global b_fMethod b_fPc b_fHigh b_fLocal b_fEntry : Nat → Int32) {post : SY → Prop} {m p b nm st h : Nat} (ho : 11 < 21) (hb : b < 256) (hb4 : 11 = 1 ∨ 11 = 2 → b < 4) (hm : m < 8) (eN : b_mName m = nI nm) (hn : nm < 16) (h5 : h ≤ 5) (hr : wy_r st < 2 ^ h) (hl : ∀ s, s < 4 → b_local s = nI (wy_c st s))
    (T1 : wy_ok 11 b nm st h → ∀ (hi re : Int32) (lo : Nat → Int32), hi = nI (wy_h 11 h) → re = nI (wy_nr 11 b st h) → (∀ s, s < 4 → lo s = nI (wy_nl 11 b st h s)) → wY_step_333 post (nI m) (nI p) (nI 11) (nI b) g_types g_methods g_place g_result g_linked 0 hi re g_active g_ticks g_code b_above b_ownField b_mType b_mName b_mLength b_bytes b_starts b_seen b_done b_heights lo b_sure b_objType b_objField b_marked b_global b_fMethod b_fPc b_fHigh b_fLocal b_fEntry)
    (T0 : ¬ wy_ok 11 b nm st h → ∀ (hi re : Int32) (lo : Nat → Int32), post (g_types, g_methods, g_place, g_result, g_linked, 1, hi, re, g_active, g_ticks, g_code, b_above, b_ownField, b_mType, b_mName, b_mLength, b_bytes, b_starts, b_seen, b_done, b_heights, lo, b_sure, b_objType, b_objField, b_marked, b_global, b_fMethod, b_fPc, b_fHigh, b_fLocal, b_fEntry)) :
    wY_step_35 post (nI m) (nI p) (nI 11) (nI b) g_types g_methods g_place g_result g_linked 0 (nI h) (nI (wy_r st)) g_active g_ticks g_code b_above b_ownField b_mType b_mName b_mLength b_bytes b_starts b_seen b_done b_heights b_local b_sure b_objType b_objField b_marked b_global b_fMethod b_fPc b_fHigh b_fLocal b_fEntry := by
  have hp := wy_p5 h (by omega)
  have w := wok1 (o := 11) (b := b) (nm := nm) (st := st) (k1 := 0) rfl (by decide) (fun c hc => kd_e2 hc) h5
  refine br_f (by decide) (br_f (by decide) (br_f (by decide) (br_f (by decide) (br_t (by decide) (br_t (by decide) (ev_need g_types g_methods g_place g_result g_linked g_active g_ticks g_code b_above b_ownField b_mType b_mName b_mLength b_bytes b_starts b_seen b_done b_heights b_local b_sure b_objType b_objField b_marked b_global b_fMethod b_fPc b_fHigh b_fLocal b_fEntry (k := 0) h5 hr (by omega) (fun a1 a2 => br_f (by decide) (br_f (by decide) (br_t (by decide) (br_f (by decide) (br_f (by decide) (br_f (by decide) (br_f (by decide) (br_f (by decide) (br_f (by decide) (br_f (by decide) (br_f (by decide) (br_f (by decide) (br_f (by decide) (br_f (by decide) (br_f (by decide) (?_)))))))))))))))) (fun a hi re => sb_136 g_types g_methods g_place g_result g_linked hi re g_active g_ticks g_code b_above b_ownField b_mType b_mName b_mLength b_bytes b_starts b_seen b_done b_heights b_local b_sure b_objType b_objField b_marked b_global b_fMethod b_fPc b_fHigh b_fLocal b_fEntry (by omega) hm hb4 (T0 (fun z => a ⟨by have := (w.mp z).1; omega, (w.mp z).2⟩)))))))))
  exact T1 (w.mpr ⟨a1, a2⟩) _ _ _ rfl rfl (fun s hs => by rw [nl_ne (by decide)]; exact hl s hs)
theorem s35_18 (g_types g_methods g_place g_result g_linked g_active g_ticks g_code : Int32) (b_above b_ownField b_mType b_mName b_mLength b_bytes b_starts : Nat → Int32) (b_seen b_done : Nat → Int64) (b_heights b_local b_sure b_objType b_objField b_marked b_global b_fMethod b_fPc b_fHigh b_fLocal b_fEntry : Nat → Int32) {post : SY → Prop} {m p b nm st h : Nat} (ho : 18 < 21) (hb : b < 256) (hb4 : 18 = 1 ∨ 18 = 2 → b < 4) (hm : m < 8) (eN : b_mName m = nI nm) (hn : nm < 16) (h5 : h ≤ 5) (hr : wy_r st < 2 ^ h) (hl : ∀ s, s < 4 → b_local s = nI (wy_c st s))
    (T1 : wy_ok 18 b nm st h → ∀ (hi re : Int32) (lo : Nat → Int32), hi = nI (wy_h 18 h) → re = nI (wy_nr 18 b st h) → (∀ s, s < 4 → lo s = nI (wy_nl 18 b st h s)) → wY_step_333 post (nI m) (nI p) (nI 18) (nI b) g_types g_methods g_place g_result g_linked 0 hi re g_active g_ticks g_code b_above b_ownField b_mType b_mName b_mLength b_bytes b_starts b_seen b_done b_heights lo b_sure b_objType b_objField b_marked b_global b_fMethod b_fPc b_fHigh b_fLocal b_fEntry)
    (T0 : ¬ wy_ok 18 b nm st h → ∀ (hi re : Int32) (lo : Nat → Int32), post (g_types, g_methods, g_place, g_result, g_linked, 1, hi, re, g_active, g_ticks, g_code, b_above, b_ownField, b_mType, b_mName, b_mLength, b_bytes, b_starts, b_seen, b_done, b_heights, lo, b_sure, b_objType, b_objField, b_marked, b_global, b_fMethod, b_fPc, b_fHigh, b_fLocal, b_fEntry)) :
    wY_step_35 post (nI m) (nI p) (nI 18) (nI b) g_types g_methods g_place g_result g_linked 0 (nI h) (nI (wy_r st)) g_active g_ticks g_code b_above b_ownField b_mType b_mName b_mLength b_bytes b_starts b_seen b_done b_heights b_local b_sure b_objType b_objField b_marked b_global b_fMethod b_fPc b_fHigh b_fLocal b_fEntry := by
  have hp := wy_p5 h (by omega)
  by_cases h8 : nm < 8
  · have ev : is_n1 18 b nm = 2 := if_pos h8
    have w := wok1 (o := 18) (b := b) (nm := nm) (st := st) (k1 := 0) rfl (by decide) (fun c hc => by rw [ev]; exact kd_e2 hc) h5
    refine br_f (by decide) (br_f (by decide) (br_f (by decide) (br_f (by decide) (br_t (by decide) (br_f (by decide) (br_f (by decide) (br_f (by decide) (br_f (by decide) (br_f (by decide) (br_f (by decide) (br_t (by decide) (⟨vp_in_nI hm (by omega), br_t (by rw [nI_clamp (by omega), eN]; exact nI_lt (b := 8) h8 (by decide)) (ev_need g_types g_methods g_place g_result g_linked g_active g_ticks g_code b_above b_ownField b_mType b_mName b_mLength b_bytes b_starts b_seen b_done b_heights b_local b_sure b_objType b_objField b_marked b_global b_fMethod b_fPc b_fHigh b_fLocal b_fEntry (k := 0) h5 hr (by omega) (fun a1 a2 => br_f (by decide) (br_f (by decide) (br_f (by decide) (br_f (by decide) (br_f (by decide) (br_f (by decide) (br_f (by decide) (br_f (by decide) (br_f (by decide) (br_f (by decide) (?_))))))))))) (fun a hi re => sb_229 g_types g_methods g_place g_result g_linked hi re g_active g_ticks g_code b_above b_ownField b_mType b_mName b_mLength b_bytes b_starts b_seen b_done b_heights b_local b_sure b_objType b_objField b_marked b_global b_fMethod b_fPc b_fHigh b_fLocal b_fEntry (by omega) hm hb4 (T0 (fun z => a ⟨by have := (w.mp z).1; omega, (w.mp z).2⟩))))⟩))))))))))))
    exact T1 (w.mpr ⟨a1, a2⟩) _ _ _ rfl rfl (fun s hs => by rw [nl_ne (by decide)]; exact hl s hs)
  · have ev : is_n1 18 b nm = 4 := if_neg h8
    have w := wok1 (o := 18) (b := b) (nm := nm) (st := st) (k1 := 1) rfl (by decide) (fun c hc => by rw [ev]; exact kd_e4 hc) h5
    refine br_f (by decide) (br_f (by decide) (br_f (by decide) (br_f (by decide) (br_t (by decide) (br_f (by decide) (br_f (by decide) (br_f (by decide) (br_f (by decide) (br_f (by decide) (br_f (by decide) (br_t (by decide) (⟨vp_in_nI hm (by omega), br_f (by rw [nI_clamp (by omega), eN]; exact nI_nlt (b := 8) (by omega) (by omega)) (ev_need g_types g_methods g_place g_result g_linked g_active g_ticks g_code b_above b_ownField b_mType b_mName b_mLength b_bytes b_starts b_seen b_done b_heights b_local b_sure b_objType b_objField b_marked b_global b_fMethod b_fPc b_fHigh b_fLocal b_fEntry (k := 1) h5 hr (by omega) (fun a1 a2 => br_f (by decide) (br_f (by decide) (br_f (by decide) (br_f (by decide) (br_f (by decide) (br_f (by decide) (br_f (by decide) (br_f (by decide) (br_f (by decide) (br_f (by decide) (?_))))))))))) (fun a hi re => sb_229 g_types g_methods g_place g_result g_linked hi re g_active g_ticks g_code b_above b_ownField b_mType b_mName b_mLength b_bytes b_starts b_seen b_done b_heights b_local b_sure b_objType b_objField b_marked b_global b_fMethod b_fPc b_fHigh b_fLocal b_fEntry (by omega) hm hb4 (T0 (fun z => a ⟨by have := (w.mp z).1; omega, (w.mp z).2⟩))))⟩))))))))))))
    exact T1 (w.mpr ⟨a1, a2⟩) _ _ _ rfl rfl (fun s hs => by rw [nl_ne (by decide)]; exact hl s hs)
theorem s35_3 (g_types g_methods g_place g_result g_linked g_active g_ticks g_code : Int32) (b_above b_ownField b_mType b_mName b_mLength b_bytes b_starts : Nat → Int32) (b_seen b_done : Nat → Int64) (b_heights b_local b_sure b_objType b_objField b_marked b_global b_fMethod b_fPc b_fHigh b_fLocal b_fEntry : Nat → Int32) {post : SY → Prop} {m p b nm st h : Nat} (ho : 3 < 21) (hb : b < 256) (hb4 : 3 = 1 ∨ 3 = 2 → b < 4) (hm : m < 8) (eN : b_mName m = nI nm) (hn : nm < 16) (h5 : h ≤ 5) (hr : wy_r st < 2 ^ h) (hl : ∀ s, s < 4 → b_local s = nI (wy_c st s))
    (T1 : wy_ok 3 b nm st h → ∀ (hi re : Int32) (lo : Nat → Int32), hi = nI (wy_h 3 h) → re = nI (wy_nr 3 b st h) → (∀ s, s < 4 → lo s = nI (wy_nl 3 b st h s)) → wY_step_333 post (nI m) (nI p) (nI 3) (nI b) g_types g_methods g_place g_result g_linked 0 hi re g_active g_ticks g_code b_above b_ownField b_mType b_mName b_mLength b_bytes b_starts b_seen b_done b_heights lo b_sure b_objType b_objField b_marked b_global b_fMethod b_fPc b_fHigh b_fLocal b_fEntry)
    (T0 : ¬ wy_ok 3 b nm st h → ∀ (hi re : Int32) (lo : Nat → Int32), post (g_types, g_methods, g_place, g_result, g_linked, 1, hi, re, g_active, g_ticks, g_code, b_above, b_ownField, b_mType, b_mName, b_mLength, b_bytes, b_starts, b_seen, b_done, b_heights, lo, b_sure, b_objType, b_objField, b_marked, b_global, b_fMethod, b_fPc, b_fHigh, b_fLocal, b_fEntry)) :
    wY_step_35 post (nI m) (nI p) (nI 3) (nI b) g_types g_methods g_place g_result g_linked 0 (nI h) (nI (wy_r st)) g_active g_ticks g_code b_above b_ownField b_mType b_mName b_mLength b_bytes b_starts b_seen b_done b_heights b_local b_sure b_objType b_objField b_marked b_global b_fMethod b_fPc b_fHigh b_fLocal b_fEntry := by
  have hp := wy_p5 h (by omega)
  have w := wok1v (o := 3) (b := b) (nm := nm) (st := st) rfl (by decide) rfl h5
  refine br_f (by decide) (br_t (by decide) ?_)
  rcases Nat.eq_zero_or_pos h with rfl | h1
  · exact ev_ypop0 g_types g_methods g_place g_result g_linked 0 (nI (wy_r st)) g_active g_ticks g_code b_above b_ownField b_mType b_mName b_mLength b_bytes b_starts b_seen b_done b_heights b_local b_sure b_objType b_objField b_marked b_global b_fMethod b_fPc b_fHigh b_fLocal b_fEntry (sb_68 g_types g_methods g_place g_result g_linked (nI 0) (nI (wy_r st)) g_active g_ticks g_code b_above b_ownField b_mType b_mName b_mLength b_bytes b_starts b_seen b_done b_heights b_local b_sure b_objType b_objField b_marked b_global b_fMethod b_fPc b_fHigh b_fLocal b_fEntry (by omega) hm hb4 (T0 (fun z => absurd (w.mp z) (by omega))))
  · refine ev_ypop g_types g_methods g_place g_result g_linked 0 g_active g_ticks g_code b_above b_ownField b_mType b_mName b_mLength b_bytes b_starts b_seen b_done b_heights b_local b_sure b_objType b_objField b_marked b_global b_fMethod b_fPc b_fHigh b_fLocal b_fEntry h5 hr h1 (br_f (by decide) (br_t (by decide) (br_f (by decide) (br_f (by decide) (br_f (by decide) (br_t (by decide) (br_f (by decide) (br_f (by decide) (br_f (by decide) (br_t (by decide) (br_f (by decide) (br_f (by decide) (br_f (by decide) (br_f (by decide) (br_f (by decide) (br_f (by decide) (br_f (by decide) (?_))))))))))))))))))
    exact T1 (w.mpr h1) _ _ _ rfl rfl (fun s hs => by rw [nl_ne (by decide)]; exact hl s hs)
theorem s35_2 (g_types g_methods g_place g_result g_linked g_active g_ticks g_code : Int32) (b_above b_ownField b_mType b_mName b_mLength b_bytes b_starts : Nat → Int32) (b_seen b_done : Nat → Int64) (b_heights b_local b_sure b_objType b_objField b_marked b_global b_fMethod b_fPc b_fHigh b_fLocal b_fEntry : Nat → Int32) {post : SY → Prop} {m p b nm st h : Nat} (ho : 2 < 21) (hb : b < 256) (hb4 : 2 = 1 ∨ 2 = 2 → b < 4) (hm : m < 8) (eN : b_mName m = nI nm) (hn : nm < 16) (h5 : h ≤ 5) (hr : wy_r st < 2 ^ h) (hl : ∀ s, s < 4 → b_local s = nI (wy_c st s))
    (T1 : wy_ok 2 b nm st h → ∀ (hi re : Int32) (lo : Nat → Int32), hi = nI (wy_h 2 h) → re = nI (wy_nr 2 b st h) → (∀ s, s < 4 → lo s = nI (wy_nl 2 b st h s)) → wY_step_333 post (nI m) (nI p) (nI 2) (nI b) g_types g_methods g_place g_result g_linked 0 hi re g_active g_ticks g_code b_above b_ownField b_mType b_mName b_mLength b_bytes b_starts b_seen b_done b_heights lo b_sure b_objType b_objField b_marked b_global b_fMethod b_fPc b_fHigh b_fLocal b_fEntry)
    (T0 : ¬ wy_ok 2 b nm st h → ∀ (hi re : Int32) (lo : Nat → Int32), post (g_types, g_methods, g_place, g_result, g_linked, 1, hi, re, g_active, g_ticks, g_code, b_above, b_ownField, b_mType, b_mName, b_mLength, b_bytes, b_starts, b_seen, b_done, b_heights, lo, b_sure, b_objType, b_objField, b_marked, b_global, b_fMethod, b_fPc, b_fHigh, b_fLocal, b_fEntry)) :
    wY_step_35 post (nI m) (nI p) (nI 2) (nI b) g_types g_methods g_place g_result g_linked 0 (nI h) (nI (wy_r st)) g_active g_ticks g_code b_above b_ownField b_mType b_mName b_mLength b_bytes b_starts b_seen b_done b_heights b_local b_sure b_objType b_objField b_marked b_global b_fMethod b_fPc b_fHigh b_fLocal b_fEntry := by
  have hp := wy_p5 h (by omega)
  have w := wok1v (o := 2) (b := b) (nm := nm) (st := st) rfl (by decide) rfl h5
  have hb' := hb4 (Or.inr rfl)
  refine br_f (by decide) (br_f (by decide) (br_t (by decide) ?_))
  rcases Nat.eq_zero_or_pos h with rfl | h1
  · exact ev_ypop0 g_types g_methods g_place g_result g_linked 0 (nI (wy_r st)) g_active g_ticks g_code b_above b_ownField b_mType b_mName b_mLength b_bytes b_starts b_seen b_done b_heights b_local b_sure b_objType b_objField b_marked b_global b_fMethod b_fPc b_fHigh b_fLocal b_fEntry ⟨vp_in_nI (by omega) (by omega), nm_e (sb_84 g_types g_methods g_place g_result g_linked (nI 0) (nI (wy_r st)) g_active g_ticks g_code b_above b_ownField b_mType b_mName b_mLength b_bytes b_starts b_seen b_done b_heights _ b_sure b_objType b_objField b_marked b_global b_fMethod b_fPc b_fHigh b_fLocal b_fEntry (by omega) hm hb4 (T0 (fun z => absurd (w.mp z) (by omega))))⟩
  · refine ev_ypop g_types g_methods g_place g_result g_linked 0 g_active g_ticks g_code b_above b_ownField b_mType b_mName b_mLength b_bytes b_starts b_seen b_done b_heights b_local b_sure b_objType b_objField b_marked b_global b_fMethod b_fPc b_fHigh b_fLocal b_fEntry h5 hr h1 ⟨vp_in_nI (by omega) (by omega), nm_e (br_t (by decide) (br_f (by decide) (br_f (by decide) (br_f (by decide) (br_t (by decide) (br_f (by decide) (br_f (by decide) (br_f (by decide) (br_t (by decide) (br_f (by decide) (br_f (by decide) (br_f (by decide) (br_f (by decide) (br_f (by decide) (br_f (by decide) (br_f (by decide) (?_)))))))))))))))))⟩
    refine T1 (w.mpr h1) _ _ _ rfl rfl (fun s hs => ?_)
    unfold wy_nl
    rw [nI_clamp (by omega)]
    by_cases e : s = b
    · subst e; rw [pk_us, if_pos ⟨rfl, rfl⟩, wc_3 h1]
    · rw [pk_un e, if_neg (fun z => e z.2)]; exact hl s hs
theorem s35_0 (g_types g_methods g_place g_result g_linked g_active g_ticks g_code : Int32) (b_above b_ownField b_mType b_mName b_mLength b_bytes b_starts : Nat → Int32) (b_seen b_done : Nat → Int64) (b_heights b_local b_sure b_objType b_objField b_marked b_global b_fMethod b_fPc b_fHigh b_fLocal b_fEntry : Nat → Int32) {post : SY → Prop} {m p b nm st h : Nat} (ho : 0 < 21) (hb : b < 256) (hb4 : 0 = 1 ∨ 0 = 2 → b < 4) (hm : m < 8) (eN : b_mName m = nI nm) (hn : nm < 16) (h5 : h ≤ 5) (hr : wy_r st < 2 ^ h) (hl : ∀ s, s < 4 → b_local s = nI (wy_c st s))
    (T1 : wy_ok 0 b nm st h → ∀ (hi re : Int32) (lo : Nat → Int32), hi = nI (wy_h 0 h) → re = nI (wy_nr 0 b st h) → (∀ s, s < 4 → lo s = nI (wy_nl 0 b st h s)) → wY_step_333 post (nI m) (nI p) (nI 0) (nI b) g_types g_methods g_place g_result g_linked 0 hi re g_active g_ticks g_code b_above b_ownField b_mType b_mName b_mLength b_bytes b_starts b_seen b_done b_heights lo b_sure b_objType b_objField b_marked b_global b_fMethod b_fPc b_fHigh b_fLocal b_fEntry)
    (T0 : ¬ wy_ok 0 b nm st h → ∀ (hi re : Int32) (lo : Nat → Int32), post (g_types, g_methods, g_place, g_result, g_linked, 1, hi, re, g_active, g_ticks, g_code, b_above, b_ownField, b_mType, b_mName, b_mLength, b_bytes, b_starts, b_seen, b_done, b_heights, lo, b_sure, b_objType, b_objField, b_marked, b_global, b_fMethod, b_fPc, b_fHigh, b_fLocal, b_fEntry)) :
    wY_step_35 post (nI m) (nI p) (nI 0) (nI b) g_types g_methods g_place g_result g_linked 0 (nI h) (nI (wy_r st)) g_active g_ticks g_code b_above b_ownField b_mType b_mName b_mLength b_bytes b_starts b_seen b_done b_heights b_local b_sure b_objType b_objField b_marked b_global b_fMethod b_fPc b_fHigh b_fLocal b_fEntry := by
  have hp := wy_p5 h (by omega)
  have w := wok0 (o := 0) (b := b) (nm := nm) (st := st) (h := h) rfl (by decide) rfl
  exact br_f (by decide) (br_f (by decide) (br_f (by decide) (br_t (by decide) (br_f (by decide) (br_f (by decide) (br_f (by decide) (br_t (by decide) (br_f (by decide) (br_f (by decide) (br_t (by decide) (ev_ypush g_types g_methods g_place g_result g_linked g_active g_ticks g_code b_above b_ownField b_mType b_mName b_mLength b_bytes b_starts b_seen b_done b_heights b_local b_sure b_objType b_objField b_marked b_global b_fMethod b_fPc b_fHigh b_fLocal b_fEntry (k := 0) h5 hr (by omega) (fun a => T1 (w.mpr a) _ _ _ rfl (by show _ = nI (wy_r st % 2 ^ (h - 0) + 0 * 2 ^ (h - 0)); rw [Nat.sub_zero, yr_m h (by omega) (wy_r st) hr]) (fun s hs => by rw [nl_ne (by decide)]; exact hl s hs)) (fun a => s333_bad g_types g_methods g_place g_result g_linked _ _ g_active g_ticks g_code b_above b_ownField b_mType b_mName b_mLength b_bytes b_starts b_seen b_done b_heights b_local b_sure b_objType b_objField b_marked b_global b_fMethod b_fPc b_fHigh b_fLocal b_fEntry (by omega) (T0 (fun z => a (w.mp z)) _ _ _)))))))))))))
theorem s35_12 (g_types g_methods g_place g_result g_linked g_active g_ticks g_code : Int32) (b_above b_ownField b_mType b_mName b_mLength b_bytes b_starts : Nat → Int32) (b_seen b_done : Nat → Int64) (b_heights b_local b_sure b_objType b_objField b_marked b_global b_fMethod b_fPc b_fHigh b_fLocal b_fEntry : Nat → Int32) {post : SY → Prop} {m p b nm st h : Nat} (ho : 12 < 21) (hb : b < 256) (hb4 : 12 = 1 ∨ 12 = 2 → b < 4) (hm : m < 8) (eN : b_mName m = nI nm) (hn : nm < 16) (h5 : h ≤ 5) (hr : wy_r st < 2 ^ h) (hl : ∀ s, s < 4 → b_local s = nI (wy_c st s))
    (T1 : wy_ok 12 b nm st h → ∀ (hi re : Int32) (lo : Nat → Int32), hi = nI (wy_h 12 h) → re = nI (wy_nr 12 b st h) → (∀ s, s < 4 → lo s = nI (wy_nl 12 b st h s)) → wY_step_333 post (nI m) (nI p) (nI 12) (nI b) g_types g_methods g_place g_result g_linked 0 hi re g_active g_ticks g_code b_above b_ownField b_mType b_mName b_mLength b_bytes b_starts b_seen b_done b_heights lo b_sure b_objType b_objField b_marked b_global b_fMethod b_fPc b_fHigh b_fLocal b_fEntry)
    (T0 : ¬ wy_ok 12 b nm st h → ∀ (hi re : Int32) (lo : Nat → Int32), post (g_types, g_methods, g_place, g_result, g_linked, 1, hi, re, g_active, g_ticks, g_code, b_above, b_ownField, b_mType, b_mName, b_mLength, b_bytes, b_starts, b_seen, b_done, b_heights, lo, b_sure, b_objType, b_objField, b_marked, b_global, b_fMethod, b_fPc, b_fHigh, b_fLocal, b_fEntry)) :
    wY_step_35 post (nI m) (nI p) (nI 12) (nI b) g_types g_methods g_place g_result g_linked 0 (nI h) (nI (wy_r st)) g_active g_ticks g_code b_above b_ownField b_mType b_mName b_mLength b_bytes b_starts b_seen b_done b_heights b_local b_sure b_objType b_objField b_marked b_global b_fMethod b_fPc b_fHigh b_fLocal b_fEntry := by
  have hp := wy_p5 h (by omega)
  have w := wok0 (o := 12) (b := b) (nm := nm) (st := st) (h := h) rfl (by decide) rfl
  exact br_f (by decide) (br_f (by decide) (br_f (by decide) (br_f (by decide) (br_t (by decide) (br_f (by decide) (br_f (by decide) (br_f (by decide) (br_t (by decide) (br_f (by decide) (br_f (by decide) (br_f (by decide) (br_f (by decide) (br_f (by decide) (br_f (by decide) (br_f (by decide) (br_t (by decide) (ev_ypush g_types g_methods g_place g_result g_linked g_active g_ticks g_code b_above b_ownField b_mType b_mName b_mLength b_bytes b_starts b_seen b_done b_heights b_local b_sure b_objType b_objField b_marked b_global b_fMethod b_fPc b_fHigh b_fLocal b_fEntry (k := 1) h5 hr (by omega) (fun a => T1 (w.mpr a) _ _ _ rfl (by show _ = nI (wy_r st % 2 ^ (h - 0) + 1 * 2 ^ (h - 0)); rw [Nat.sub_zero, yr_m h (by omega) (wy_r st) hr]) (fun s hs => by rw [nl_ne (by decide)]; exact hl s hs)) (fun a => s333_bad g_types g_methods g_place g_result g_linked _ _ g_active g_ticks g_code b_above b_ownField b_mType b_mName b_mLength b_bytes b_starts b_seen b_done b_heights b_local b_sure b_objType b_objField b_marked b_global b_fMethod b_fPc b_fHigh b_fLocal b_fEntry (by omega) (T0 (fun z => a (w.mp z)) _ _ _)))))))))))))))))))
theorem s35_13 (g_types g_methods g_place g_result g_linked g_active g_ticks g_code : Int32) (b_above b_ownField b_mType b_mName b_mLength b_bytes b_starts : Nat → Int32) (b_seen b_done : Nat → Int64) (b_heights b_local b_sure b_objType b_objField b_marked b_global b_fMethod b_fPc b_fHigh b_fLocal b_fEntry : Nat → Int32) {post : SY → Prop} {m p b nm st h : Nat} (ho : 13 < 21) (hb : b < 256) (hb4 : 13 = 1 ∨ 13 = 2 → b < 4) (hm : m < 8) (eN : b_mName m = nI nm) (hn : nm < 16) (h5 : h ≤ 5) (hr : wy_r st < 2 ^ h) (hl : ∀ s, s < 4 → b_local s = nI (wy_c st s))
    (T1 : wy_ok 13 b nm st h → ∀ (hi re : Int32) (lo : Nat → Int32), hi = nI (wy_h 13 h) → re = nI (wy_nr 13 b st h) → (∀ s, s < 4 → lo s = nI (wy_nl 13 b st h s)) → wY_step_333 post (nI m) (nI p) (nI 13) (nI b) g_types g_methods g_place g_result g_linked 0 hi re g_active g_ticks g_code b_above b_ownField b_mType b_mName b_mLength b_bytes b_starts b_seen b_done b_heights lo b_sure b_objType b_objField b_marked b_global b_fMethod b_fPc b_fHigh b_fLocal b_fEntry)
    (T0 : ¬ wy_ok 13 b nm st h → ∀ (hi re : Int32) (lo : Nat → Int32), post (g_types, g_methods, g_place, g_result, g_linked, 1, hi, re, g_active, g_ticks, g_code, b_above, b_ownField, b_mType, b_mName, b_mLength, b_bytes, b_starts, b_seen, b_done, b_heights, lo, b_sure, b_objType, b_objField, b_marked, b_global, b_fMethod, b_fPc, b_fHigh, b_fLocal, b_fEntry)) :
    wY_step_35 post (nI m) (nI p) (nI 13) (nI b) g_types g_methods g_place g_result g_linked 0 (nI h) (nI (wy_r st)) g_active g_ticks g_code b_above b_ownField b_mType b_mName b_mLength b_bytes b_starts b_seen b_done b_heights b_local b_sure b_objType b_objField b_marked b_global b_fMethod b_fPc b_fHigh b_fLocal b_fEntry := by
  have hp := wy_p5 h (by omega)
  have w := wok0 (o := 13) (b := b) (nm := nm) (st := st) (h := h) rfl (by decide) rfl
  exact br_f (by decide) (br_f (by decide) (br_f (by decide) (br_f (by decide) (br_t (by decide) (br_f (by decide) (br_f (by decide) (br_f (by decide) (br_t (by decide) (br_f (by decide) (br_f (by decide) (br_f (by decide) (br_f (by decide) (br_f (by decide) (br_f (by decide) (br_f (by decide) (br_f (by decide) (br_t (by decide) (ev_ypush g_types g_methods g_place g_result g_linked g_active g_ticks g_code b_above b_ownField b_mType b_mName b_mLength b_bytes b_starts b_seen b_done b_heights b_local b_sure b_objType b_objField b_marked b_global b_fMethod b_fPc b_fHigh b_fLocal b_fEntry (k := 1) h5 hr (by omega) (fun a => T1 (w.mpr a) _ _ _ rfl (by show _ = nI (wy_r st % 2 ^ (h - 0) + 1 * 2 ^ (h - 0)); rw [Nat.sub_zero, yr_m h (by omega) (wy_r st) hr]) (fun s hs => by rw [nl_ne (by decide)]; exact hl s hs)) (fun a => s333_bad g_types g_methods g_place g_result g_linked _ _ g_active g_ticks g_code b_above b_ownField b_mType b_mName b_mLength b_bytes b_starts b_seen b_done b_heights b_local b_sure b_objType b_objField b_marked b_global b_fMethod b_fPc b_fHigh b_fLocal b_fEntry (by omega) (T0 (fun z => a (w.mp z)) _ _ _))))))))))))))))))))
theorem s35_19 (g_types g_methods g_place g_result g_linked g_active g_ticks g_code : Int32) (b_above b_ownField b_mType b_mName b_mLength b_bytes b_starts : Nat → Int32) (b_seen b_done : Nat → Int64) (b_heights b_local b_sure b_objType b_objField b_marked b_global b_fMethod b_fPc b_fHigh b_fLocal b_fEntry : Nat → Int32) {post : SY → Prop} {m p b nm st h : Nat} (ho : 19 < 21) (hb : b < 256) (hb4 : 19 = 1 ∨ 19 = 2 → b < 4) (hm : m < 8) (eN : b_mName m = nI nm) (hn : nm < 16) (h5 : h ≤ 5) (hr : wy_r st < 2 ^ h) (hl : ∀ s, s < 4 → b_local s = nI (wy_c st s))
    (T1 : wy_ok 19 b nm st h → ∀ (hi re : Int32) (lo : Nat → Int32), hi = nI (wy_h 19 h) → re = nI (wy_nr 19 b st h) → (∀ s, s < 4 → lo s = nI (wy_nl 19 b st h s)) → wY_step_333 post (nI m) (nI p) (nI 19) (nI b) g_types g_methods g_place g_result g_linked 0 hi re g_active g_ticks g_code b_above b_ownField b_mType b_mName b_mLength b_bytes b_starts b_seen b_done b_heights lo b_sure b_objType b_objField b_marked b_global b_fMethod b_fPc b_fHigh b_fLocal b_fEntry)
    (T0 : ¬ wy_ok 19 b nm st h → ∀ (hi re : Int32) (lo : Nat → Int32), post (g_types, g_methods, g_place, g_result, g_linked, 1, hi, re, g_active, g_ticks, g_code, b_above, b_ownField, b_mType, b_mName, b_mLength, b_bytes, b_starts, b_seen, b_done, b_heights, lo, b_sure, b_objType, b_objField, b_marked, b_global, b_fMethod, b_fPc, b_fHigh, b_fLocal, b_fEntry)) :
    wY_step_35 post (nI m) (nI p) (nI 19) (nI b) g_types g_methods g_place g_result g_linked 0 (nI h) (nI (wy_r st)) g_active g_ticks g_code b_above b_ownField b_mType b_mName b_mLength b_bytes b_starts b_seen b_done b_heights b_local b_sure b_objType b_objField b_marked b_global b_fMethod b_fPc b_fHigh b_fLocal b_fEntry := by
  have hp := wy_p5 h (by omega)
  have w := wok0 (o := 19) (b := b) (nm := nm) (st := st) (h := h) rfl (by decide) rfl
  exact br_f (by decide) (br_f (by decide) (br_f (by decide) (br_f (by decide) (br_t (by decide) (br_f (by decide) (br_f (by decide) (br_f (by decide) (br_f (by decide) (br_f (by decide) (br_f (by decide) (br_f (by decide) (br_f (by decide) (br_f (by decide) (br_f (by decide) (br_f (by decide) (br_f (by decide) (br_f (by decide) (br_f (by decide) (br_t (by decide) (ev_ypush g_types g_methods g_place g_result g_linked g_active g_ticks g_code b_above b_ownField b_mType b_mName b_mLength b_bytes b_starts b_seen b_done b_heights b_local b_sure b_objType b_objField b_marked b_global b_fMethod b_fPc b_fHigh b_fLocal b_fEntry (k := 1) h5 hr (by omega) (fun a => T1 (w.mpr a) _ _ _ rfl (by show _ = nI (wy_r st % 2 ^ (h - 0) + 1 * 2 ^ (h - 0)); rw [Nat.sub_zero, yr_m h (by omega) (wy_r st) hr]) (fun s hs => by rw [nl_ne (by decide)]; exact hl s hs)) (fun a => s333_bad g_types g_methods g_place g_result g_linked _ _ g_active g_ticks g_code b_above b_ownField b_mType b_mName b_mLength b_bytes b_starts b_seen b_done b_heights b_local b_sure b_objType b_objField b_marked b_global b_fMethod b_fPc b_fHigh b_fLocal b_fEntry (by omega) (T0 (fun z => a (w.mp z)) _ _ _))))))))))))))))))))))
theorem s35_1 (g_types g_methods g_place g_result g_linked g_active g_ticks g_code : Int32) (b_above b_ownField b_mType b_mName b_mLength b_bytes b_starts : Nat → Int32) (b_seen b_done : Nat → Int64) (b_heights b_local b_sure b_objType b_objField b_marked b_global b_fMethod b_fPc b_fHigh b_fLocal b_fEntry : Nat → Int32) {post : SY → Prop} {m p b nm st h : Nat} (ho : 1 < 21) (hb : b < 256) (hb4 : 1 = 1 ∨ 1 = 2 → b < 4) (hm : m < 8) (eN : b_mName m = nI nm) (hn : nm < 16) (h5 : h ≤ 5) (hr : wy_r st < 2 ^ h) (hl : ∀ s, s < 4 → b_local s = nI (wy_c st s))
    (T1 : wy_ok 1 b nm st h → ∀ (hi re : Int32) (lo : Nat → Int32), hi = nI (wy_h 1 h) → re = nI (wy_nr 1 b st h) → (∀ s, s < 4 → lo s = nI (wy_nl 1 b st h s)) → wY_step_333 post (nI m) (nI p) (nI 1) (nI b) g_types g_methods g_place g_result g_linked 0 hi re g_active g_ticks g_code b_above b_ownField b_mType b_mName b_mLength b_bytes b_starts b_seen b_done b_heights lo b_sure b_objType b_objField b_marked b_global b_fMethod b_fPc b_fHigh b_fLocal b_fEntry)
    (T0 : ¬ wy_ok 1 b nm st h → ∀ (hi re : Int32) (lo : Nat → Int32), post (g_types, g_methods, g_place, g_result, g_linked, 1, hi, re, g_active, g_ticks, g_code, b_above, b_ownField, b_mType, b_mName, b_mLength, b_bytes, b_starts, b_seen, b_done, b_heights, lo, b_sure, b_objType, b_objField, b_marked, b_global, b_fMethod, b_fPc, b_fHigh, b_fLocal, b_fEntry)) :
    wY_step_35 post (nI m) (nI p) (nI 1) (nI b) g_types g_methods g_place g_result g_linked 0 (nI h) (nI (wy_r st)) g_active g_ticks g_code b_above b_ownField b_mType b_mName b_mLength b_bytes b_starts b_seen b_done b_heights b_local b_sure b_objType b_objField b_marked b_global b_fMethod b_fPc b_fHigh b_fLocal b_fEntry := by
  have hp := wy_p5 h (by omega)
  have hb' := hb4 (Or.inl rfl)
  have hc := wy_cB st b
  have hlb := hl b hb'
  refine br_t (by decide) ⟨vp_in_nI hb' (by omega), ?_⟩
  rw [nI_clamp (by omega), hlb]
  by_cases e2 : wy_c st b = 2
  · exact br_t (by rw [e2]; rfl) (sb_58 g_types g_methods g_place g_result g_linked (nI h) (nI (wy_r st)) g_active g_ticks g_code b_above b_ownField b_mType b_mName b_mLength b_bytes b_starts b_seen b_done b_heights b_local b_sure b_objType b_objField b_marked b_global b_fMethod b_fPc b_fHigh b_fLocal b_fEntry (by omega) hm hb4 (T0 (fun z => z.2.2.2.1 rfl e2)))
  · refine br_f (by rw [gm_eqL (by omega) (by omega)]; exact e2) (br_f (by decide) (br_f (by decide) (br_t (by decide) (br_f (by decide) (br_f (by decide) (br_f (by decide) (br_t (by decide) (br_f (by decide) (br_f (by decide) (br_f (by decide) (br_t (by decide) (br_f (by decide) (br_t (by decide) ⟨vp_in_nI hb' (by omega), ?_⟩)))))))))))))
    rw [nI_clamp (by omega), hlb, gk_a1 _ (by omega)]
    refine ev_ypush g_types g_methods g_place g_result g_linked g_active g_ticks g_code b_above b_ownField b_mType b_mName b_mLength b_bytes b_starts b_seen b_done b_heights b_local b_sure b_objType b_objField b_marked b_global b_fMethod b_fPc b_fHigh b_fLocal b_fEntry (k := wy_c st b) h5 hr (by omega) (fun a => T1 ⟨Nat.zero_le _, fun z => absurd z (by decide), fun z => absurd z (by decide), fun _ => e2, fun _ => a⟩ _ _ _ rfl ?_ (fun s hs => by rw [nl_ne (by decide)]; exact hl s hs)) (fun a => s333_bad g_types g_methods g_place g_result g_linked _ _ g_active g_ticks g_code b_above b_ownField b_mType b_mName b_mLength b_bytes b_starts b_seen b_done b_heights b_local b_sure b_objType b_objField b_marked b_global b_fMethod b_fPc b_fHigh b_fLocal b_fEntry (by omega) (T0 (fun z => a (z.2.2.2.2 rfl)) _ _ _))
    have e := yr_m h (by omega) (wy_r st) hr
    show _ = nI (wy_r st % 2 ^ (h - 0) + wy_c st b * 2 ^ (h - 0))
    rw [Nat.sub_zero, e]
theorem s35_10 (g_types g_methods g_place g_result g_linked g_active g_ticks g_code : Int32) (b_above b_ownField b_mType b_mName b_mLength b_bytes b_starts : Nat → Int32) (b_seen b_done : Nat → Int64) (b_heights b_local b_sure b_objType b_objField b_marked b_global b_fMethod b_fPc b_fHigh b_fLocal b_fEntry : Nat → Int32) {post : SY → Prop} {m p b nm st h : Nat} (ho : 10 < 21) (hb : b < 256) (hb4 : 10 = 1 ∨ 10 = 2 → b < 4) (hm : m < 8) (eN : b_mName m = nI nm) (hn : nm < 16) (h5 : h ≤ 5) (hr : wy_r st < 2 ^ h) (hl : ∀ s, s < 4 → b_local s = nI (wy_c st s))
    (T1 : wy_ok 10 b nm st h → ∀ (hi re : Int32) (lo : Nat → Int32), hi = nI (wy_h 10 h) → re = nI (wy_nr 10 b st h) → (∀ s, s < 4 → lo s = nI (wy_nl 10 b st h s)) → wY_step_333 post (nI m) (nI p) (nI 10) (nI b) g_types g_methods g_place g_result g_linked 0 hi re g_active g_ticks g_code b_above b_ownField b_mType b_mName b_mLength b_bytes b_starts b_seen b_done b_heights lo b_sure b_objType b_objField b_marked b_global b_fMethod b_fPc b_fHigh b_fLocal b_fEntry)
    (T0 : ¬ wy_ok 10 b nm st h → ∀ (hi re : Int32) (lo : Nat → Int32), post (g_types, g_methods, g_place, g_result, g_linked, 1, hi, re, g_active, g_ticks, g_code, b_above, b_ownField, b_mType, b_mName, b_mLength, b_bytes, b_starts, b_seen, b_done, b_heights, lo, b_sure, b_objType, b_objField, b_marked, b_global, b_fMethod, b_fPc, b_fHigh, b_fLocal, b_fEntry)) :
    wY_step_35 post (nI m) (nI p) (nI 10) (nI b) g_types g_methods g_place g_result g_linked 0 (nI h) (nI (wy_r st)) g_active g_ticks g_code b_above b_ownField b_mType b_mName b_mLength b_bytes b_starts b_seen b_done b_heights b_local b_sure b_objType b_objField b_marked b_global b_fMethod b_fPc b_fHigh b_fLocal b_fEntry := by
  have hp := wy_p5 h (by omega)
  refine br_f (by decide) (br_f (by decide) (br_f (by decide) (br_f (by decide) (br_t (by decide) (br_f (by decide) (br_f (by decide) (br_f (by decide) (br_t (by decide) (br_f (by decide) (br_f (by decide) (br_f (by decide) (br_f (by decide) (br_f (by decide) (br_f (by decide) (br_f (by decide) (br_f (by decide) (br_f (by decide) (br_f (by decide) (br_f (by decide) (br_f (by decide) (?_)))))))))))))))))))))
  refine T1 ⟨Nat.zero_le _, fun z => absurd z (by decide), fun z => absurd z (by decide), fun z => absurd z (by decide), fun z => absurd z (by decide)⟩ _ _ _ rfl ?_ (fun s hs => by rw [nl_ne (by decide)]; exact hl s hs)
  have e := yr_m h (by omega) (wy_r st) hr
  show _ = nI (wy_r st % 2 ^ (h - 0) + 0)
  rw [Nat.sub_zero, e, Nat.add_zero]
theorem s35 (g_types g_methods g_place g_result g_linked g_active g_ticks g_code : Int32) (b_above b_ownField b_mType b_mName b_mLength b_bytes b_starts : Nat → Int32) (b_seen b_done : Nat → Int64) (b_heights b_local b_sure b_objType b_objField b_marked b_global b_fMethod b_fPc b_fHigh b_fLocal b_fEntry : Nat → Int32) {post : SY → Prop} {m p b nm st h : Nat} {o : Nat} (ho : o < 21) (hb : b < 256) (hb4 : o = 1 ∨ o = 2 → b < 4) (hm : m < 8) (eN : b_mName m = nI nm) (hn : nm < 16) (h5 : h ≤ 5) (hr : wy_r st < 2 ^ h) (hl : ∀ s, s < 4 → b_local s = nI (wy_c st s))
    (T1 : wy_ok o b nm st h → ∀ (hi re : Int32) (lo : Nat → Int32), hi = nI (wy_h o h) → re = nI (wy_nr o b st h) → (∀ s, s < 4 → lo s = nI (wy_nl o b st h s)) → wY_step_333 post (nI m) (nI p) (nI o) (nI b) g_types g_methods g_place g_result g_linked 0 hi re g_active g_ticks g_code b_above b_ownField b_mType b_mName b_mLength b_bytes b_starts b_seen b_done b_heights lo b_sure b_objType b_objField b_marked b_global b_fMethod b_fPc b_fHigh b_fLocal b_fEntry)
    (T0 : ¬ wy_ok o b nm st h → ∀ (hi re : Int32) (lo : Nat → Int32), post (g_types, g_methods, g_place, g_result, g_linked, 1, hi, re, g_active, g_ticks, g_code, b_above, b_ownField, b_mType, b_mName, b_mLength, b_bytes, b_starts, b_seen, b_done, b_heights, lo, b_sure, b_objType, b_objField, b_marked, b_global, b_fMethod, b_fPc, b_fHigh, b_fLocal, b_fEntry)) :
    wY_step_35 post (nI m) (nI p) (nI o) (nI b) g_types g_methods g_place g_result g_linked 0 (nI h) (nI (wy_r st)) g_active g_ticks g_code b_above b_ownField b_mType b_mName b_mLength b_bytes b_starts b_seen b_done b_heights b_local b_sure b_objType b_objField b_marked b_global b_fMethod b_fPc b_fHigh b_fLocal b_fEntry := by
  rcases is_21 ho with rfl | rfl | rfl | rfl | rfl | rfl | rfl | rfl | rfl | rfl | rfl | rfl | rfl | rfl | rfl | rfl | rfl | rfl | rfl | rfl | rfl
  · exact s35_0 g_types g_methods g_place g_result g_linked g_active g_ticks g_code b_above b_ownField b_mType b_mName b_mLength b_bytes b_starts b_seen b_done b_heights b_local b_sure b_objType b_objField b_marked b_global b_fMethod b_fPc b_fHigh b_fLocal b_fEntry ho hb hb4 hm eN hn h5 hr hl T1 T0
  · exact s35_1 g_types g_methods g_place g_result g_linked g_active g_ticks g_code b_above b_ownField b_mType b_mName b_mLength b_bytes b_starts b_seen b_done b_heights b_local b_sure b_objType b_objField b_marked b_global b_fMethod b_fPc b_fHigh b_fLocal b_fEntry ho hb hb4 hm eN hn h5 hr hl T1 T0
  · exact s35_2 g_types g_methods g_place g_result g_linked g_active g_ticks g_code b_above b_ownField b_mType b_mName b_mLength b_bytes b_starts b_seen b_done b_heights b_local b_sure b_objType b_objField b_marked b_global b_fMethod b_fPc b_fHigh b_fLocal b_fEntry ho hb hb4 hm eN hn h5 hr hl T1 T0
  · exact s35_3 g_types g_methods g_place g_result g_linked g_active g_ticks g_code b_above b_ownField b_mType b_mName b_mLength b_bytes b_starts b_seen b_done b_heights b_local b_sure b_objType b_objField b_marked b_global b_fMethod b_fPc b_fHigh b_fLocal b_fEntry ho hb hb4 hm eN hn h5 hr hl T1 T0
  · exact s35_4 g_types g_methods g_place g_result g_linked g_active g_ticks g_code b_above b_ownField b_mType b_mName b_mLength b_bytes b_starts b_seen b_done b_heights b_local b_sure b_objType b_objField b_marked b_global b_fMethod b_fPc b_fHigh b_fLocal b_fEntry ho hb hb4 hm eN hn h5 hr hl T1 T0
  · exact s35_5 g_types g_methods g_place g_result g_linked g_active g_ticks g_code b_above b_ownField b_mType b_mName b_mLength b_bytes b_starts b_seen b_done b_heights b_local b_sure b_objType b_objField b_marked b_global b_fMethod b_fPc b_fHigh b_fLocal b_fEntry ho hb hb4 hm eN hn h5 hr hl T1 T0
  · exact s35_6 g_types g_methods g_place g_result g_linked g_active g_ticks g_code b_above b_ownField b_mType b_mName b_mLength b_bytes b_starts b_seen b_done b_heights b_local b_sure b_objType b_objField b_marked b_global b_fMethod b_fPc b_fHigh b_fLocal b_fEntry ho hb hb4 hm eN hn h5 hr hl T1 T0
  · exact s35_7 g_types g_methods g_place g_result g_linked g_active g_ticks g_code b_above b_ownField b_mType b_mName b_mLength b_bytes b_starts b_seen b_done b_heights b_local b_sure b_objType b_objField b_marked b_global b_fMethod b_fPc b_fHigh b_fLocal b_fEntry ho hb hb4 hm eN hn h5 hr hl T1 T0
  · exact s35_8 g_types g_methods g_place g_result g_linked g_active g_ticks g_code b_above b_ownField b_mType b_mName b_mLength b_bytes b_starts b_seen b_done b_heights b_local b_sure b_objType b_objField b_marked b_global b_fMethod b_fPc b_fHigh b_fLocal b_fEntry ho hb hb4 hm eN hn h5 hr hl T1 T0
  · exact s35_9 g_types g_methods g_place g_result g_linked g_active g_ticks g_code b_above b_ownField b_mType b_mName b_mLength b_bytes b_starts b_seen b_done b_heights b_local b_sure b_objType b_objField b_marked b_global b_fMethod b_fPc b_fHigh b_fLocal b_fEntry ho hb hb4 hm eN hn h5 hr hl T1 T0
  · exact s35_10 g_types g_methods g_place g_result g_linked g_active g_ticks g_code b_above b_ownField b_mType b_mName b_mLength b_bytes b_starts b_seen b_done b_heights b_local b_sure b_objType b_objField b_marked b_global b_fMethod b_fPc b_fHigh b_fLocal b_fEntry ho hb hb4 hm eN hn h5 hr hl T1 T0
  · exact s35_11 g_types g_methods g_place g_result g_linked g_active g_ticks g_code b_above b_ownField b_mType b_mName b_mLength b_bytes b_starts b_seen b_done b_heights b_local b_sure b_objType b_objField b_marked b_global b_fMethod b_fPc b_fHigh b_fLocal b_fEntry ho hb hb4 hm eN hn h5 hr hl T1 T0
  · exact s35_12 g_types g_methods g_place g_result g_linked g_active g_ticks g_code b_above b_ownField b_mType b_mName b_mLength b_bytes b_starts b_seen b_done b_heights b_local b_sure b_objType b_objField b_marked b_global b_fMethod b_fPc b_fHigh b_fLocal b_fEntry ho hb hb4 hm eN hn h5 hr hl T1 T0
  · exact s35_13 g_types g_methods g_place g_result g_linked g_active g_ticks g_code b_above b_ownField b_mType b_mName b_mLength b_bytes b_starts b_seen b_done b_heights b_local b_sure b_objType b_objField b_marked b_global b_fMethod b_fPc b_fHigh b_fLocal b_fEntry ho hb hb4 hm eN hn h5 hr hl T1 T0
  · exact s35_14 g_types g_methods g_place g_result g_linked g_active g_ticks g_code b_above b_ownField b_mType b_mName b_mLength b_bytes b_starts b_seen b_done b_heights b_local b_sure b_objType b_objField b_marked b_global b_fMethod b_fPc b_fHigh b_fLocal b_fEntry ho hb hb4 hm eN hn h5 hr hl T1 T0
  · exact s35_15 g_types g_methods g_place g_result g_linked g_active g_ticks g_code b_above b_ownField b_mType b_mName b_mLength b_bytes b_starts b_seen b_done b_heights b_local b_sure b_objType b_objField b_marked b_global b_fMethod b_fPc b_fHigh b_fLocal b_fEntry ho hb hb4 hm eN hn h5 hr hl T1 T0
  · exact s35_16 g_types g_methods g_place g_result g_linked g_active g_ticks g_code b_above b_ownField b_mType b_mName b_mLength b_bytes b_starts b_seen b_done b_heights b_local b_sure b_objType b_objField b_marked b_global b_fMethod b_fPc b_fHigh b_fLocal b_fEntry ho hb hb4 hm eN hn h5 hr hl T1 T0
  · exact s35_17 g_types g_methods g_place g_result g_linked g_active g_ticks g_code b_above b_ownField b_mType b_mName b_mLength b_bytes b_starts b_seen b_done b_heights b_local b_sure b_objType b_objField b_marked b_global b_fMethod b_fPc b_fHigh b_fLocal b_fEntry ho hb hb4 hm eN hn h5 hr hl T1 T0
  · exact s35_18 g_types g_methods g_place g_result g_linked g_active g_ticks g_code b_above b_ownField b_mType b_mName b_mLength b_bytes b_starts b_seen b_done b_heights b_local b_sure b_objType b_objField b_marked b_global b_fMethod b_fPc b_fHigh b_fLocal b_fEntry ho hb hb4 hm eN hn h5 hr hl T1 T0
  · exact s35_19 g_types g_methods g_place g_result g_linked g_active g_ticks g_code b_above b_ownField b_mType b_mName b_mLength b_bytes b_starts b_seen b_done b_heights b_local b_sure b_objType b_objField b_marked b_global b_fMethod b_fPc b_fHigh b_fLocal b_fEntry ho hb hb4 hm eN hn h5 hr hl T1 T0
  · exact s35_20 g_types g_methods g_place g_result g_linked g_active g_ticks g_code b_above b_ownField b_mType b_mName b_mLength b_bytes b_starts b_seen b_done b_heights b_local b_sure b_objType b_objField b_marked b_global b_fMethod b_fPc b_fHigh b_fLocal b_fEntry ho hb hb4 hm eN hn h5 hr hl T1 T0
end
section
/-! ===== the reference's check: its invariant ===== -/
def yCl (L nm : Nat) (D : Nat → Nat) (H : Nat → Int32) (se : Nat → Int64) (st h : Nat) : Prop := wy_ok (D (wy_p st)) (D (wy_p st + 1)) nm st h ∧ ∀ p', is_su (D (wy_p st)) (D (wy_p st + 1)) (wy_p st) p' → p' < L ∧ H p' = nI (wy_h (D (wy_p st)) h) ∧ sb se (wy_nx (D (wy_p st)) (D (wy_p st + 1)) st h p')
def YI (m L nm : Nat) (D : Nat → Nat) (e : Nat) (H : Nat → Int32) (se dn : Nat → Int64) (su : Nat → Int32) : Prop :=
  (∀ p, p < 32 → H p = -1 ∨ ∃ h, h ≤ 5 ∧ H p = nI h) ∧ (∀ st, st < 36864 → sb se st → ∃ h, h ≤ 5 ∧ H (wy_p st) = nI h ∧ Way D L nm st h) ∧ (∀ p, p < 32 → ∀ h, h ≤ 5 → H p = nI h → ∃ st, st < 36864 ∧ sb se st ∧ wy_p st = p) ∧
  (∀ st, st < 36864 → sb dn st → sb se st) ∧ (∀ p, p < L → ∀ s, s < 9 → (bt (su (m * 32 + p)) s = true ↔ ∀ st, st < 36864 → sb se st → wy_p st = p → wy_c st s = 1)) ∧
  (∀ st, st < 36864 → sb dn st → st ≠ e → ∀ h, h ≤ 5 → H (wy_p st) = nI h → yCl L nm D H se st h)
def BMi (L : Nat) (S : Nat → Prop) (se dn : Nat → Int64) : Prop := (∀ st, st < 36864 → sb se st → wy_p st < L ∧ S (wy_p st)) ∧ (∀ st, st < 36864 → sb dn st → sb se st)
theorem YI_BM {m L nm e tc : Nat} {D : Nat → Nat} {S : Nat → Prop} {H su : Nat → Int32} {se dn : Nat → Int64} (F : fo_OK tc L D S) (I : YI m L nm D e H se dn su) : BMi L S se dn := by
  obtain ⟨i1, i2, i3, i4, i5, i6⟩ := I
  refine ⟨fun st hst hs => ?_, i4⟩
  obtain ⟨h, -, -, w⟩ := i2 st hst hs
  obtain ⟨v1, v2, -⟩ := way_v F w
  exact ⟨v1, v2⟩
theorem wy_lt {p r a b c d : Nat} (hp : p < 32) (hr : r < 32) (ha : a < 2) (hb : b < 2) (hc : c < 3) (hd : d < 3) : wy_e p r a b c d < 36864 := by unfold wy_e; omega
/-- a state more -/
theorem YI_add {m L nm e p' h' st' : Nat} {D : Nat → Nat} {H su su' : Nat → Int32} {se se' dn : Nat → Int64} (hL : L ≤ 32) (I : YI m L nm D e H se dn su) (hp : p' < L) (h5 : h' ≤ 5) (hst : st' < 36864) (ep : wy_p st' = p') (w : Way D L nm st' h') (eH : H p' = -1 ∨ H p' = nI h') (k1 : ∀ st, sb se' st ↔ sb se st ∨ st = st') (k2 : ∀ i, i ≠ m * 32 + p' → su' i = su i) (k3 : ∀ s, s < 9 → (bt (su' (m * 32 + p')) s = true ↔ (bt (su (m * 32 + p')) s = true ∧ wy_c st' s = 1))) : YI m L nm D e (upd H p' (nI h')) se' dn su' := by
  obtain ⟨i1, i2, i3, i4, i5, i6⟩ := I
  have hold : ∀ q, q < 32 → ∀ h, h ≤ 5 → H q = nI h → upd H p' (nI h') q = nI h := by
    intro q hq h hh e
    by_cases e2 : q = p'
    · subst e2
      rw [pk_us]
      rcases eH with z | z
      · rw [e] at z; exact absurd z (fun z => gp_m1n (by omega) z)
      · rw [← z, e]
    · rw [pk_un e2]; exact e
  refine ⟨fun q hq => ?_, fun st hs1 hs2 => ?_, fun q hq h hh e => ?_, fun st hs1 hs2 => (k1 st).mpr (Or.inl (i4 st hs1 hs2)), fun q hq s hs => ?_, fun st hs1 hs2 hne h hh e => ?_⟩
  · by_cases e2 : q = p'
    · subst e2; exact Or.inr ⟨h', h5, pk_us⟩
    · rw [pk_un e2]; exact i1 q hq
  · rcases (k1 st).mp hs2 with z | z
    · obtain ⟨h, a1, a2, a3⟩ := i2 st hs1 z
      exact ⟨h, a1, hold _ (by unfold wy_p; omega) h a1 a2, a3⟩
    · subst z
      rw [ep]
      exact ⟨h', h5, pk_us, w⟩
  · by_cases e2 : q = p'
    · subst e2; exact ⟨st', hst, (k1 st').mpr (Or.inr rfl), ep⟩
    · rw [pk_un e2] at e
      obtain ⟨st, a1, a2, a3⟩ := i3 q hq h hh e
      exact ⟨st, a1, (k1 st).mpr (Or.inl a2), a3⟩
  · by_cases e2 : q = p'
    · subst e2
      rw [k3 s hs, i5 q hq s hs]
      constructor
      · rintro ⟨a, b⟩ st hs1 hs2 ep2
        rcases (k1 st).mp hs2 with z | z
        · exact a st hs1 z ep2
        · subst z; exact b
      · intro a
        exact ⟨fun st hs1 hs2 ep2 => a st hs1 ((k1 st).mpr (Or.inl hs2)) ep2, a st' hst ((k1 st').mpr (Or.inr rfl)) ep⟩
    · rw [k2 _ (by omega), i5 q hq s hs]
      constructor
      · intro a st hs1 hs2 ep2
        rcases (k1 st).mp hs2 with z | z
        · exact a st hs1 z ep2
        · subst z; exact absurd (ep2.symm.trans ep) e2
      · intro a st hs1 hs2 ep2
        exact a st hs1 ((k1 st).mpr (Or.inl hs2)) ep2
  · obtain ⟨ho, a1, a2, a3⟩ := i2 st hs1 (i4 st hs1 hs2)
    have hq : wy_p st < 32 := by unfold wy_p; omega
    have := hold _ hq ho a1 a2
    rw [this] at e
    cases gp_inj (by omega) (by omega) e
    obtain ⟨b1, b2⟩ := i6 st hs1 hs2 hne h a1 a2
    refine ⟨b1, fun q hq => ?_⟩
    obtain ⟨c1, c2, c3⟩ := b2 q hq
    refine ⟨c1, hold q (by omega) _ ?_ c2, (k1 _).mpr (Or.inl c3)⟩
    rcases i1 q (by omega) with z | ⟨hz, z1, z2⟩
    · rw [z] at c2
      have hb : wy_h (D (wy_p st)) h ≤ 100 := by unfold wy_h; split <;> omega
      exact absurd c2.symm (fun z => gp_m1n (by omega) z)
    · rw [z2] at c2
      have hb : wy_h (D (wy_p st)) h ≤ 100 := by unfold wy_h; split <;> omega
      have := gp_inj (by omega) (by omega) c2
      omega
/-- what each end of a step keeps: refused, or the invariant -/
def GI (m L nm : Nat) (D : Nat → Nat) (S : Nat → Prop) (su0 : Nat → Int32) (bad : Int32) (e : Nat) (H : Nat → Int32) (se dn : Nat → Int64) (su : Nat → Int32) : Prop := ((bad = 0 ∧ YI m L nm D e H se dn su ∧ sb se (wy_i nm) ∧ H 0 = nI 0) ∨ (bad = 1 ∧ WBad D L nm ∧ BMi L S se dn)) ∧ ∀ i, (i < m * 32 ∨ m * 32 + 32 ≤ i) → su i = su0 i
/-- one arrival on the reference's side -/
theorem rc1 (g_types g_methods g_place g_result g_linked g_active g_ticks g_code : Int32) (b_above b_ownField b_mType b_mName b_mLength b_bytes b_starts : Nat → Int32) (b_seen b_done : Nat → Int64) (b_heights b_local b_sure b_objType b_objField b_marked b_global b_fMethod b_fPc b_fHigh b_fLocal b_fEntry : Nat → Int32) {post : SY → Prop} {m L nm e tc p' h' st' : Nat} {D : Nat → Nat} {S : Nat → Prop} {su0 : Nat → Int32} (F : fo_OK tc L D S) (hm : m < 8) (eL : b_mLength m = nI L) (hp : p' < 1000) (h5 : h' ≤ 5) (I : YI m L nm D e b_heights b_seen b_done b_sure) (hsu : ∀ i, (i < m * 32 ∨ m * 32 + 32 ≤ i) → b_sure i = su0 i)
    (hl : ∀ s, s < 4 → b_local s = nI (wy_c st' s)) (ep : wy_p st' = p') (hbad : L ≤ p' → WBad D L nm) (hw : p' < L → Way D L nm st' h')
    (J0 : WBad D L nm → post (g_types, g_methods, g_place, g_result, g_linked, 1, nI h', nI (wy_r st'), g_active, g_ticks, g_code, b_above, b_ownField, b_mType, b_mName, b_mLength, b_bytes, b_starts, b_seen, b_done, b_heights, b_local, b_sure, b_objType, b_objField, b_marked, b_global, b_fMethod, b_fPc, b_fHigh, b_fLocal, b_fEntry)) (J1 : p' < L → ∀ (H' : Nat → Int32) (se : Nat → Int64) (su : Nat → Int32), YI m L nm D e H' se b_done su → (∀ i, (i < m * 32 ∨ m * 32 + 32 ≤ i) → su i = su0 i) → H' p' = nI h' → (∀ q, q < 32 → ∀ h, h ≤ 5 → b_heights q = nI h → H' q = nI h) → sb se st' → (∀ st, sb b_seen st → sb se st) → post (g_types, g_methods, g_place, g_result, g_linked, 0, nI h', nI (wy_r st'), g_active, g_ticks, g_code, b_above, b_ownField, b_mType, b_mName, b_mLength, b_bytes, b_starts, se, b_done, H', b_local, su, b_objType, b_objField, b_marked, b_global, b_fMethod, b_fPc, b_fHigh, b_fLocal, b_fEntry)) :
    wpY_reach post (g_types, g_methods, g_place, g_result, g_linked, 0, nI h', nI (wy_r st'), g_active, g_ticks, g_code, b_above, b_ownField, b_mType, b_mName, b_mLength, b_bytes, b_starts, b_seen, b_done, b_heights, b_local, b_sure, b_objType, b_objField, b_marked, b_global, b_fMethod, b_fPc, b_fHigh, b_fLocal, b_fEntry) (nI m) (nI p') := by
  have hL := F.2.1
  have est := wy_enc st'
  rw [ep] at est
  refine ev_reach g_types g_methods g_place g_result g_linked g_active g_ticks g_code b_above b_ownField b_mType b_mName b_mLength b_bytes b_starts b_seen b_done b_heights b_local b_sure b_objType b_objField b_marked b_global b_fMethod b_fPc b_fHigh b_fLocal b_fEntry (l := wy_c st') hm hL eL hp h5 (wy_rB st') hl (wy_cB2 _ _ (by omega)) (wy_cB2 _ _ (by omega)) (wy_cB _ _) (wy_cB _ _) I.1 (fun z => J0 (hbad z)) (fun z h0 h05 e0 hne => J0 ?_) (fun z e0 se su k1 k2 k3 => ?_)
  · obtain ⟨st0, a1, a2, a3⟩ := I.2.2.1 p' (by omega) h0 h05 e0
    obtain ⟨h1, b1, b2, b3⟩ := I.2.1 st0 a1 a2
    rw [a3, e0] at b2
    cases gp_inj (by omega) (by omega) b2
    exact ⟨st0, h0, b3, Or.inr (Or.inr ⟨st', h', hw z, by rw [ep, a3], fun w => hne w.symm⟩)⟩
  · rw [← est] at k1 k3
    have hst : st' < 36864 := by rw [est]; exact wy_lt (by omega) (wy_rB _) (wy_cB2 _ _ (by omega)) (wy_cB2 _ _ (by omega)) (wy_cB _ _) (wy_cB _ _)
    refine J1 z _ se su (YI_add hL I z h5 hst ep (hw z) e0 k1 k2 k3) (fun i hi => by rw [k2 i (by omega)]; exact hsu i hi) pk_us (fun q hq h hh eq => ?_) ((k1 st').mpr (Or.inr rfl)) (fun st hs => (k1 st).mpr (Or.inl hs))
    by_cases e2 : q = p'
    · subst e2
      rw [pk_us]
      rcases e0 with z2 | z2
      · rw [eq] at z2; exact absurd z2 (fun z => gp_m1n (by omega) z)
      · rw [← z2, eq]
    · rw [pk_un e2]; exact eq
/-- an operand that isn't read matters nothing -/
theorem sg_w {o b b' nm st h : Nat} (ho : o < 21) (hs : is_sg o = true) : (wy_ok o b nm st h ↔ wy_ok o b' nm st h) ∧ wy_nr o b st h = wy_nr o b' st h ∧ ∀ s, wy_nl o b st h s = wy_nl o b' st h s := by
  obtain ⟨e1, e2, e3, e4, -⟩ := sg_eq b nm ho hs
  obtain ⟨f1, f2, -⟩ := sg_eq b' nm ho hs
  refine ⟨?_, ?_, fun s => by rw [nl_ne e4, nl_ne e4]⟩
  · unfold wy_ok
    rw [e1, f1]
    exact ⟨fun ⟨a, b, c, d, e⟩ => ⟨a, b, c, fun z => absurd z e3, e⟩, fun ⟨a, b, c, d, e⟩ => ⟨a, b, c, fun z => absurd z e3, e⟩⟩
  · unfold wy_nr wy_g
    rw [if_neg e3, if_neg e3, e2, f2]
theorem y_step (g_types g_methods g_place g_result g_linked g_active g_ticks g_code : Int32) (b_above b_ownField b_mType b_mName b_mLength b_bytes b_starts : Nat → Int32) (b_seen b_done : Nat → Int64) (b_heights b_sure b_objType b_objField b_marked b_global b_fMethod b_fPc b_fHigh b_fLocal b_fEntry : Nat → Int32) {post : SY → Prop} {m L nm tc st h : Nat} {lo : Nat → Int32} {D : Nat → Nat} {S : Nat → Prop} {su0 : Nat → Int32} (F : fo_OK tc L D S) (hm : m < 8) (eL : b_mLength m = nI L) (hn : nm < 16) (eN : b_mName m = nI nm) (hD : ∀ p, p < 33 → b_bytes (m * 32 + p) = nI (D p) ∧ D p < 256) (h5 : h ≤ 5) (I : YI m L nm D st b_heights b_seen b_done b_sure) (hsu : ∀ i, (i < m * 32 ∨ m * 32 + 32 ≤ i) → b_sure i = su0 i)
    (hst : st < 36864) (eH : b_heights (wy_p st) = nI h) (w : Way D L nm st h) (hl : ∀ s, s < 4 → lo s = nI (wy_c st s)) (hini : sb b_seen (wy_i nm) ∧ b_heights 0 = nI 0)
    (J : ∀ (bad hi re : Int32) (lo H' : Nat → Int32) (se : Nat → Int64) (su : Nat → Int32), GI m L nm D S su0 bad 99999 H' se b_done su → (∀ st, sb b_seen st → sb se st) → post (g_types, g_methods, g_place, g_result, g_linked, bad, hi, re, g_active, g_ticks, g_code, b_above, b_ownField, b_mType, b_mName, b_mLength, b_bytes, b_starts, se, b_done, H', lo, su, b_objType, b_objField, b_marked, b_global, b_fMethod, b_fPc, b_fHigh, b_fLocal, b_fEntry)) :
    wpY_step post (g_types, g_methods, g_place, g_result, g_linked, 0, nI h, nI (wy_r st), g_active, g_ticks, g_code, b_above, b_ownField, b_mType, b_mName, b_mLength, b_bytes, b_starts, b_seen, b_done, b_heights, lo, b_sure, b_objType, b_objField, b_marked, b_global, b_fMethod, b_fPc, b_fHigh, b_fLocal, b_fEntry) (nI m) (nI (wy_p st)) := by
  have hL := F.2.1
  obtain ⟨v1, v2, v3, v4⟩ := way_v F w
  obtain ⟨f1, f2, f3, f4, f5⟩ := F.2.2.2 _ v1 v2
  have hb4 := fo_b4 F v1 v2
  obtain ⟨eD, hD2⟩ := hD (wy_p st) (by omega)
  obtain ⟨eD1, hD3⟩ := hD (wy_p st + 1) (by omega)
  generalize hp : wy_p st = p at *
  rw [show m * 32 + (p + 1) = m * 32 + p + 1 by omega] at eD1
  have BM := YI_BM F I
  -- the operand as it is read
  have main : ∀ b, b < 256 → (is_sg (D p) = false → b = D (p + 1)) → wY_step_35 post (nI m) (nI p) (nI (D p)) (nI b) g_types g_methods g_place g_result g_linked 0 (nI h) (nI (wy_r st)) g_active g_ticks g_code b_above b_ownField b_mType b_mName b_mLength b_bytes b_starts b_seen b_done b_heights lo b_sure b_objType b_objField b_marked b_global b_fMethod b_fPc b_fHigh b_fLocal b_fEntry := by
    intro b hb hdbl
    have ew : (wy_ok (D p) b nm st h ↔ wy_ok (D p) (D (p + 1)) nm st h) ∧ wy_nr (D p) b st h = wy_nr (D p) (D (p + 1)) st h ∧ ∀ s, wy_nl (D p) b st h s = wy_nl (D p) (D (p + 1)) st h s := by
      cases z : is_sg (D p)
      · rw [hdbl z]; exact ⟨Iff.rfl, rfl, fun _ => rfl⟩
      · exact sg_w f1 z
    have d12 : D p = 1 ∨ D p = 2 → b = D (p + 1) := fun z => hdbl (by rcases z with z | z <;> rw [z] <;> rfl)
    have d1011 : D p = 10 ∨ D p = 11 → b = D (p + 1) := fun z => hdbl (by rcases z with z | z <;> rw [z] <;> rfl)
    refine s35 g_types g_methods g_place g_result g_linked g_active g_ticks g_code b_above b_ownField b_mType b_mName b_mLength b_bytes b_starts b_seen b_done b_heights lo b_sure b_objType b_objField b_marked b_global b_fMethod b_fPc b_fHigh b_fLocal b_fEntry (st := st) f1 hb (fun z => by rw [d12 z]; rcases z with z | z; exact hb4.1 z; exact hb4.2 z) hm eN hn h5 v4 hl (fun hok hi re lo' e1 e2 e3 => ?_) (fun nok hi re lo' => J _ _ _ _ _ _ _ ⟨Or.inr ⟨rfl, ⟨st, h, w, Or.inl (by rw [hp]; exact fun z => nok (ew.1.mpr z))⟩, BM⟩, hsu⟩ (fun _ z => z))
    have hok' := ew.1.mp hok
    obtain ⟨n1, n2⟩ := wy_nrB hb4.1 hok' h5
    subst e1 e2
    -- each successor
    have bad : ∀ p', is_su (D p) (D (p + 1)) p p' → L ≤ p' → WBad D L nm := fun p' hs hLp => ⟨st, h, w, Or.inr (Or.inl ⟨p', by rw [hp]; exact hs, hLp⟩)⟩
    have nx : ∀ p', is_su (D p) (D (p + 1)) p p' → p' < L → Way D L nm (wy_nx (D p) (D (p + 1)) st h p') (wy_h (D p) h) := fun p' hs hp' => by
      have := way_s (p' := p') w (by rw [hp]; exact hok') (by rw [hp]; exact hs) hp'
      rw [hp] at this
      exact this
    have nd : ∀ p', wy_p (wy_nx (D p) (D (p + 1)) st h p') = p' ∧ wy_r (wy_nx (D p) (D (p + 1)) st h p') = wy_nr (D p) b st h ∧ ∀ s, s < 4 → lo' s = nI (wy_c (wy_nx (D p) (D (p + 1)) st h p') s) := fun p' => by
      obtain ⟨c1, c2, c3⟩ := wy_nxD (p' := p') hb4.1 hok' h5
      exact ⟨c1, by rw [c2, ew.2.1], fun s hs => by rw [e3 s hs, ew.2.2 s, c3 s hs]⟩
    -- closing
    have close : ∀ (H' : Nat → Int32) (se : Nat → Int64) (su : Nat → Int32), YI m L nm D st H' se b_done su → H' p = nI h → (∀ p', is_su (D p) (D (p + 1)) p p' → p' < L ∧ H' p' = nI (wy_h (D p) h) ∧ sb se (wy_nx (D p) (D (p + 1)) st h p')) → YI m L nm D 99999 H' se b_done su := by
      intro H' se su I' eH' hc
      obtain ⟨i1, i2, i3, i4, i5, i6⟩ := I'
      refine ⟨i1, i2, i3, i4, i5, fun q hq1 hq2 _ hh hh5 eh => ?_⟩
      by_cases e : q = st
      · subst e
        rw [hp, eH'] at eh
        cases gp_inj (by omega) (by omega) eh
        unfold yCl
        rw [hp]
        exact ⟨hok', hc⟩
      · exact i6 q hq1 hq2 e hh hh5 eh
    have p32 : p < 32 := by omega
    have hz : is_sz (D p) ≤ 2 := by unfold is_sz; split <;> omega
    unfold wY_step_333 wY_step_345
    have f352 : ∀ (g : Int32) (H' : Nat → Int32) (se : Nat → Int64) (su : Nat → Int32), YI m L nm D st H' se b_done su → (sb se (wy_i nm) ∧ H' 0 = nI 0) → (∀ i, (i < m * 32 ∨ m * 32 + 32 ≤ i) → su i = su0 i) → H' p = nI h → (∀ st, sb b_seen st → sb se st) → (D p = 10 ∨ D p = 11 → D (p + 1) < L ∧ H' (D (p + 1)) = nI (wy_h (D p) h) ∧ sb se (wy_nx (D p) (D (p + 1)) st h (D (p + 1)))) → wY_step_352 post (nI m) (nI p) (nI (D p)) g_types g_methods g_place g_result g_linked 0 (nI (wy_h (D p) h)) (nI (wy_nr (D p) b st h)) g_active g_ticks g_code b_above b_ownField b_mType b_mName b_mLength b_bytes b_starts se b_done H' lo' su b_objType b_objField b_marked b_global b_fMethod b_fPc b_fHigh b_fLocal b_fEntry := by
      intro g H' se su I' hi' hsu' eH' hse hj
      unfold wY_step_352
      by_cases e10 : D p = 10
      · refine br_t (by rw [e10]; rfl) (J _ _ _ _ _ _ _ ⟨Or.inl ⟨rfl, close H' se su I' eH' (fun p' hs => ?_), hi'.1, hi'.2⟩, hsu'⟩ hse)
        rcases hs with ⟨-, rfl⟩ | ⟨z, -⟩
        · exact hj (Or.inl e10)
        · exact absurd e10 z
      · refine br_f (by rw [gm_eqL (by omega) (by omega)]; exact e10) ?_
        by_cases e18 : D p = 18
        · refine br_t (by rw [e18]; rfl) (J _ _ _ _ _ _ _ ⟨Or.inl ⟨rfl, close H' se su I' eH' (fun p' hs => ?_), hi'.1, hi'.2⟩, hsu'⟩ hse)
          rcases hs with ⟨z, -⟩ | ⟨-, z, -⟩
          · omega
          · exact absurd e18 z
        · have su2 : is_su (D p) (D (p + 1)) p (p + is_sz (D p)) := Or.inr ⟨e10, e18, rfl⟩
          have last : wY_step_382 post (nI (p + is_sz (D p))) (nI m) g_types g_methods g_place g_result g_linked 0 (nI (wy_h (D p) h)) (nI (wy_nr (D p) b st h)) g_active g_ticks g_code b_above b_ownField b_mType b_mName b_mLength b_bytes b_starts se b_done H' lo' su b_objType b_objField b_marked b_global b_fMethod b_fPc b_fHigh b_fLocal b_fEntry := by
            obtain ⟨c1, c2, c3⟩ := nd (p + is_sz (D p))
            unfold wY_step_382
            rw [← c2]
            refine rc1 g_types g_methods g_place g_result g_linked g_active g_ticks g_code b_above b_ownField b_mType b_mName b_mLength b_bytes b_starts se b_done H' lo' su b_objType b_objField b_marked b_global b_fMethod b_fPc b_fHigh b_fLocal b_fEntry F hm eL (by omega) n2 I' hsu' c3 c1 (bad _ su2) (nx _ su2) (fun wb => J _ _ _ _ _ _ _ ⟨Or.inr ⟨rfl, wb, YI_BM F I'⟩, hsu'⟩ hse) (fun hp' H2 se2 su2' I2 hs2 eh2 hm2 hb2 hse2 => J _ _ _ _ _ _ _ ⟨Or.inl ⟨rfl, close H2 se2 su2' I2 (hm2 p p32 h h5 eH') (fun q hq => ?_), hse2 _ hi'.1, hm2 0 (by omega) 0 (by omega) hi'.2⟩, hs2⟩ (fun st z => hse2 st (hse st z)))
            rcases hq with ⟨z, rfl⟩ | ⟨-, -, rfl⟩
            · obtain ⟨j1, j2, j3⟩ := hj z
              exact ⟨j1, hm2 _ (by omega) _ n2 j2, hse2 _ j3⟩
            · exact ⟨hp', eh2, hb2⟩
          refine br_f (by rw [gm_eqL (by omega) (by omega)]; exact e18) (ev_single (by omega) ?_)
          cases z : is_sg (D p)
          · have e2 : is_sz (D p) = 2 := by unfold is_sz; rw [z]; rfl
            rw [e2] at last
            refine br_t rfl ?_
            rw [show nI p + 2 = nI (p + 2) from nI_add p 2]
            exact last
          · have e2 : is_sz (D p) = 1 := by unfold is_sz; rw [z]; rfl
            rw [e2] at last
            refine br_f (by decide) ?_
            rw [nI_1 p]
            exact last
    have f345 : (D p = 10 ∨ D p = 11) → wpY_reach (fun u => match u with | (g_types50, g_methods50, g_place50, g_result50, g_linked50, g_bad50, g_high50, g_refs50, g_active50, g_ticks50, g_code50, b_above50, b_ownField50, b_mType50, b_mName50, b_mLength50, b_bytes50, b_starts50, b_seen50, b_done50, b_heights50, b_local50, b_sure50, b_objType50, b_objField50, b_marked50, b_global50, b_fMethod50, b_fPc50, b_fHigh50, b_fLocal50, b_fEntry50) => (wY_step_352 post (nI m) (nI p) (nI (D p)) g_types50 g_methods50 g_place50 g_result50 g_linked50 g_bad50 g_high50 g_refs50 g_active50 g_ticks50 g_code50 b_above50 b_ownField50 b_mType50 b_mName50 b_mLength50 b_bytes50 b_starts50 b_seen50 b_done50 b_heights50 b_local50 b_sure50 b_objType50 b_objField50 b_marked50 b_global50 b_fMethod50 b_fPc50 b_fHigh50 b_fLocal50 b_fEntry50)) (g_types, g_methods, g_place, g_result, g_linked, 0, nI (wy_h (D p) h), nI (wy_nr (D p) b st h), g_active, g_ticks, g_code, b_above, b_ownField, b_mType, b_mName, b_mLength, b_bytes, b_starts, b_seen, b_done, b_heights, lo', b_sure, b_objType, b_objField, b_marked, b_global, b_fMethod, b_fPc, b_fHigh, b_fLocal, b_fEntry) (nI m) (nI b) := by
      intro hj
      have su1 : is_su (D p) (D (p + 1)) p (D (p + 1)) := Or.inl ⟨hj, rfl⟩
      obtain ⟨c1, c2, c3⟩ := nd (D (p + 1))
      rw [d1011 hj] at c2 ⊢
      rw [← c2]
      refine rc1 g_types g_methods g_place g_result g_linked g_active g_ticks g_code b_above b_ownField b_mType b_mName b_mLength b_bytes b_starts b_seen b_done b_heights lo' b_sure b_objType b_objField b_marked b_global b_fMethod b_fPc b_fHigh b_fLocal b_fEntry F hm eL (by omega) n2 I hsu c3 c1 (bad _ su1) (nx _ su1) (fun wb => ?_) (fun hp' H2 se2 su2' I2 hs2 eh2 hm2 hb2 hse2 => ?_)
      · have := s333_bad g_types g_methods g_place g_result g_linked (nI (wy_h (D p) h)) (nI (wy_r (wy_nx (D p) (D (p + 1)) st h (D (p + 1))))) g_active g_ticks g_code b_above b_ownField b_mType b_mName b_mLength b_bytes b_starts b_seen b_done b_heights lo' b_sure b_objType b_objField b_marked b_global b_fMethod b_fPc b_fHigh b_fLocal b_fEntry (post := post) (x1 := nI m) (x2 := nI p) (x4 := nI b) (o := D p) (by omega) (J _ _ _ _ _ _ _ ⟨Or.inr ⟨rfl, wb, BM⟩, hsu⟩ (fun _ z => z))
        have h352 : wY_step_352 post (nI m) (nI p) (nI (D p)) g_types g_methods g_place g_result g_linked 1 (nI (wy_h (D p) h)) (nI (wy_r (wy_nx (D p) (D (p + 1)) st h (D (p + 1))))) g_active g_ticks g_code b_above b_ownField b_mType b_mName b_mLength b_bytes b_starts b_seen b_done b_heights lo' b_sure b_objType b_objField b_marked b_global b_fMethod b_fPc b_fHigh b_fLocal b_fEntry := by
          have hJ := J 1 (nI (wy_h (D p) h)) (nI (wy_r (wy_nx (D p) (D (p + 1)) st h (D (p + 1))))) lo' b_heights b_seen b_sure ⟨Or.inr ⟨rfl, wb, BM⟩, hsu⟩ (fun _ z => z)
          unfold wY_step_352 wY_step_382
          refine ⟨fun _ => hJ, fun _ => ⟨fun _ => hJ, fun _ => ev_single (by omega) ?_⟩⟩
          exact ⟨fun _ => reach_bad g_types g_methods g_place g_result g_linked (nI (wy_h (D p) h)) (nI (wy_r (wy_nx (D p) (D (p + 1)) st h (D (p + 1))))) g_active g_ticks g_code b_above b_ownField b_mType b_mName b_mLength b_bytes b_starts b_seen b_done b_heights lo' b_sure b_objType b_objField b_marked b_global b_fMethod b_fPc b_fHigh b_fLocal b_fEntry _ _ hJ, fun _ => reach_bad g_types g_methods g_place g_result g_linked (nI (wy_h (D p) h)) (nI (wy_r (wy_nx (D p) (D (p + 1)) st h (D (p + 1))))) g_active g_ticks g_code b_above b_ownField b_mType b_mName b_mLength b_bytes b_starts b_seen b_done b_heights lo' b_sure b_objType b_objField b_marked b_global b_fMethod b_fPc b_fHigh b_fLocal b_fEntry _ _ hJ⟩
        exact h352
      · have := f352 0 H2 se2 su2' I2 ⟨hse2 _ hini.1, hm2 0 (by omega) 0 (by omega) hini.2⟩ hs2 (hm2 p p32 h h5 eH) hse2 (fun _ => ⟨hp', eh2, hb2⟩)
        rw [d1011 hj, ← c2] at this
        exact this
    by_cases e10 : D p = 10
    · exact br_t (by rw [e10]; rfl) (f345 (Or.inl e10))
    · refine br_f (by rw [gm_eqL (by omega) (by omega)]; exact e10) ?_
      by_cases e11 : D p = 11
      · exact br_t (by rw [e11]; rfl) (f345 (Or.inr e11))
      · exact br_f (by rw [gm_eqL (by omega) (by omega)]; exact e11) (f352 0 b_heights b_seen b_sure I hini hsu eH (fun _ z => z) (fun z => by omega))
  unfold wpY_step
  simp (disch := omega) only [nI_clamp, gm_clL, gm_in, gm_inL, gm_ml, gm_al, gm_la, gm_sl, nI_add, pk_mul, gm_eqL, gm_leL, gm_ltL, gm_Lle, gm_Llt, gm_eq, gm_le, gm_lt, gm_m1, forall_eq, true_and, Nat.not_lt_zero, Nat.add_sub_cancel, gm_z2, gm_z3, gm_z9, gm_z16, gm_z18, gm_z32, gm_z36, gm_z64, gm_z1152, not_true_eq_false, not_false_eq_true, false_implies, true_implies, and_true, implies_true, eD]
  refine ⟨fun z => main 0 (by omega) (fun z2 => ?_), fun z => ?_⟩
  · have e2 : is_sz (D p) = 2 := by unfold is_sz; rw [z2]; rfl
    omega
  · rw [eD1]
    exact ⟨vp_in_nI (by omega) (by omega), main (D (p + 1)) hD3 (fun _ => rfl)⟩
end
section
theorem y_stepB (g_types g_methods g_place g_result g_linked g_high g_refs g_active g_ticks g_code : Int32) (b_above b_ownField b_mType b_mName b_mLength b_bytes b_starts : Nat → Int32) (b_seen b_done : Nat → Int64) (b_heights b_local b_sure b_objType b_objField b_marked b_global b_fMethod b_fPc b_fHigh b_fLocal b_fEntry : Nat → Int32) {post : SY → Prop} {m L tc p : Nat} {D : Nat → Nat} {S : Nat → Prop} (F : fo_OK tc L D S) (hm : m < 8) (hD : ∀ p, p < 33 → b_bytes (m * 32 + p) = nI (D p) ∧ D p < 256) (hp : p < L) (hS : S p)
    (J : ∀ (hi re : Int32) (lo : Nat → Int32), post (g_types, g_methods, g_place, g_result, g_linked, 1, hi, re, g_active, g_ticks, g_code, b_above, b_ownField, b_mType, b_mName, b_mLength, b_bytes, b_starts, b_seen, b_done, b_heights, lo, b_sure, b_objType, b_objField, b_marked, b_global, b_fMethod, b_fPc, b_fHigh, b_fLocal, b_fEntry)) : wpY_step post (g_types, g_methods, g_place, g_result, g_linked, 1, g_high, g_refs, g_active, g_ticks, g_code, b_above, b_ownField, b_mType, b_mName, b_mLength, b_bytes, b_starts, b_seen, b_done, b_heights, b_local, b_sure, b_objType, b_objField, b_marked, b_global, b_fMethod, b_fPc, b_fHigh, b_fLocal, b_fEntry) (nI m) (nI p) := by
  have hL := F.2.1
  obtain ⟨f1, f2, f3, f4, f5⟩ := F.2.2.2 _ hp hS
  have hb4 := fo_b4 F hp hS
  obtain ⟨eD, hD2⟩ := hD p (by omega)
  obtain ⟨eD1, hD3⟩ := hD (p + 1) (by omega)
  rw [show m * 32 + (p + 1) = m * 32 + p + 1 by omega] at eD1
  unfold wpY_step
  simp (disch := omega) only [nI_clamp, gm_clL, gm_in, gm_inL, gm_ml, gm_al, gm_la, gm_sl, nI_add, pk_mul, gm_eqL, gm_leL, gm_ltL, gm_Lle, gm_Llt, gm_eq, gm_le, gm_lt, gm_m1, forall_eq, true_and, Nat.not_lt_zero, Nat.add_sub_cancel, gm_z2, gm_z3, gm_z9, gm_z16, gm_z18, gm_z32, gm_z36, gm_z64, gm_z1152, not_true_eq_false, not_false_eq_true, false_implies, true_implies, and_true, implies_true, eD]
  refine ⟨fun z => ?_, fun z => ?_⟩
  · exact sb_35 g_types g_methods g_place g_result g_linked g_high g_refs g_active g_ticks g_code b_above b_ownField b_mType b_mName b_mLength b_bytes b_starts b_seen b_done b_heights b_local b_sure b_objType b_objField b_marked b_global b_fMethod b_fPc b_fHigh b_fLocal b_fEntry (b := 0) (by omega) hm (fun _ => by omega) J
  · rw [eD1]
    exact ⟨vp_in_nI (by omega) (by omega), sb_35 g_types g_methods g_place g_result g_linked g_high g_refs g_active g_ticks g_code b_above b_ownField b_mType b_mName b_mLength b_bytes b_starts b_seen b_done b_heights b_local b_sure b_objType b_objField b_marked b_global b_fMethod b_fPc b_fHigh b_fLocal b_fEntry (by omega) hm (fun z => by rcases z with z | z; exact hb4.1 z; exact hb4.2 z) J⟩
theorem YI_open {m L nm st : Nat} {D : Nat → Nat} {H su : Nat → Int32} {se dn dn' : Nat → Int64} (I : YI m L nm D 99999 H se dn su) (hs : sb se st) (hst : st < 36864) (k : ∀ st', sb dn' st' ↔ sb dn st' ∨ st' = st) : YI m L nm D st H se dn' su := by
  obtain ⟨i1, i2, i3, i4, i5, i6⟩ := I
  refine ⟨i1, i2, i3, fun q h1 h2 => ?_, i5, fun q h1 h2 hne h hh e => ?_⟩
  · rcases (k q).mp h2 with z | z
    · exact i4 q h1 z
    · subst z; exact hs
  · rcases (k q).mp h2 with z | z
    · exact i6 q h1 z (by omega) h hh e
    · exact absurd z hne
theorem yg (g_types g_methods g_place g_result g_linked g_active g_ticks g_code : Int32) (b_above b_ownField b_mType b_mName b_mLength b_bytes b_starts b_objType b_objField b_marked b_global b_fMethod b_fPc b_fHigh b_fLocal b_fEntry : Nat → Int32) {post : SY → Prop} {m L nm tc w c0 : Nat} {D : Nat → Nat} {S : Nat → Prop} {su0 : Nat → Int32} {se0 dn0 : Nat → Int64} (F : fo_OK tc L D S) (hm : m < 8) (eL : b_mLength m = nI L) (hn : nm < 16) (eN : b_mName m = nI nm) (hD : ∀ p, p < 33 → b_bytes (m * 32 + p) = nI (D p) ∧ D p < 256) (hw : w < 576) (hne : se0 w ≠ dn0 w)
    (J : ∀ (bad hi re : Int32) (lo H : Nat → Int32) (se dn : Nat → Int64) (su : Nat → Int32), GI m L nm D S su0 bad 99999 H se dn su → c0 < cnP (sb dn) 36864 → post (g_types, g_methods, g_place, g_result, g_linked, bad, hi, re, g_active, g_ticks, g_code, b_above, b_ownField, b_mType, b_mName, b_mLength, b_bytes, b_starts, se, dn, H, lo, su, b_objType, b_objField, b_marked, b_global, b_fMethod, b_fPc, b_fHigh, b_fLocal, b_fEntry)) :
    ∀ d i, i + d = 64 → ∀ (bad hi re : Int32) (lo H : Nat → Int32) (se dn : Nat → Int64) (su : Nat → Int32), GI m L nm D S su0 bad 99999 H se dn su → c0 ≤ cnP (sb dn) 36864 → (c0 < cnP (sb dn) 36864 ∨ (se = se0 ∧ dn = dn0 ∧ ∀ j, j < i → lb (se w) j = lb (dn w) j)) → wY_goOn_2 post (nI m) (nI w) (d + 1) (nI i) g_types g_methods g_place g_result g_linked bad hi re g_active g_ticks g_code b_above b_ownField b_mType b_mName b_mLength b_bytes b_starts se dn H lo su b_objType b_objField b_marked b_global b_fMethod b_fPc b_fHigh b_fLocal b_fEntry := by
  have hL := F.2.1
  intro d
  induction d with
  | zero =>
    intro i hi bad hi' re lo H se dn su G h0 h1
    cases (show i = 64 by omega)
    unfold wY_goOn_2
    refine br_t (by decide) (J _ _ _ _ _ _ _ _ G ?_)
    rcases h1 with z | ⟨rfl, rfl, z⟩
    · exact z
    · exact absurd (lb_ext z) hne
  | succ d ih =>
    intro i hi bad hi' re lo H se dn su G h0 h1
    have dsub : ∀ st, st < 36864 → sb dn st → sb se st := by
      rcases G.1 with ⟨-, I, -⟩ | ⟨-, -, B⟩
      · exact I.2.2.2.1
      · exact B.2
    have q1 : (w * 64 + i) / 64 = w := by omega
    have q2 : (w * 64 + i) % 64 = i := by omega
    by_cases hb : lb (se w) i = lb (dn w) i
    · unfold wY_goOn_2
      simp (disch := omega) only [nI_clamp, gm_clL, gm_in, gm_inL, gm_ml, gm_al, gm_la, gm_sl, nI_add, pk_mul, gm_eqL, gm_leL, gm_ltL, gm_Lle, gm_Llt, gm_eq, gm_le, gm_lt, gm_m1, forall_eq, true_and, Nat.not_lt_zero, Nat.add_sub_cancel, gm_z2, gm_z3, gm_z9, gm_z16, gm_z18, gm_z32, gm_z36, gm_z64, gm_z1152, not_true_eq_false, not_false_eq_true, false_implies, true_implies, and_true, implies_true, lb_tEq]
      refine ⟨fun z => absurd z (by omega), fun _ => br_t hb (ih (i + 1) (by omega) _ _ _ _ _ _ _ _ G h0 ?_)⟩
      rcases h1 with z | ⟨z1, z2, z⟩
      · exact Or.inl z
      · refine Or.inr ⟨z1, z2, fun j hj => ?_⟩
        by_cases e : j = i
        · subst e; exact hb
        · exact z j (by omega)
    · have hdn : ¬ sb dn (w * 64 + i) := fun z => by
        have z2 := dsub _ (by omega) z
        unfold sb at z z2
        rw [q1, q2] at z z2
        exact hb (by rw [z, z2])
      have hse : sb se (w * 64 + i) := by
        unfold sb at hdn ⊢
        rw [q1, q2] at hdn ⊢
        cases h2 : lb (se w) i
        · cases h3 : lb (dn w) i
          · rw [h2, h3] at hb; exact absurd rfl hb
          · exact absurd h3 hdn
        · rfl
      have k := sb_set dn (st := w * 64 + i)
      rw [q1, q2] at k
      generalize hdn' : vp_updL dn w (dn w ||| ((1 : Int64) <<< ((nI i).toInt64 &&& 63))) = dn' at k
      have cnt : cnP (sb dn) 36864 < cnP (sb dn') 36864 := cnP_lt 36864 (fun st _ z => (k st).mpr (Or.inl z)) ⟨w * 64 + i, by omega, (k _).mpr (Or.inr rfl), hdn⟩
      have hp32 : wy_p (w * 64 + i) < 32 := by unfold wy_p; omega
      -- going on
      have nxt : ∀ (bad hi' re : Int32) (lo H : Nat → Int32) (se : Nat → Int64) (su : Nat → Int32), GI m L nm D S su0 bad 99999 H se dn' su → wY_goOn_2 post (nI m) (nI w) (d + 1) (nI (i + 1)) g_types g_methods g_place g_result g_linked bad hi' re g_active g_ticks g_code b_above b_ownField b_mType b_mName b_mLength b_bytes b_starts se dn' H lo su b_objType b_objField b_marked b_global b_fMethod b_fPc b_fHigh b_fLocal b_fEntry := fun bad hi' re lo H se su G' => ih (i + 1) (by omega) _ _ _ _ _ _ _ _ G' (by omega) (Or.inl (by omega))
      generalize hst : w * 64 + i = st at *
      have hst36 : st < 36864 := by omega
      have er : st / 36 - st / 36 / 32 * 32 = wy_r st := by unfold wy_r; omega
      have ep : st / 1152 = wy_p st := rfl
      have e3 : st - st / 3 * 3 = wy_c st 3 := by show _ = st % 3; omega
      have e2 : st / 3 - st / 3 / 3 * 3 = wy_c st 2 := by show _ = st / 3 % 3; omega
      have e1 : st / 9 - st / 9 / 2 * 2 = wy_c st 1 := by show _ = st / 9 % 2; omega
      have e0 : st / 18 - st / 18 / 2 * 2 = wy_c st 0 := by show _ = st / 18 % 2; omega
      have hl : ∀ s, s < 4 → upd (upd (upd (upd lo 3 (nI (wy_c st 3))) 2 (nI (wy_c st 2))) 1 (nI (wy_c st 1))) 0 (nI (wy_c st 0)) s = nI (wy_c st s) := by
        intro s hs
        rcases (by omega : s = 0 ∨ s = 1 ∨ s = 2 ∨ s = 3) with rfl | rfl | rfl | rfl <;> rfl
      unfold wY_goOn_2
      simp (disch := omega) only [nI_clamp, gm_clL, gm_in, gm_inL, gm_ml, gm_al, gm_la, gm_sl, nI_add, pk_mul, gm_eqL, gm_leL, gm_ltL, gm_Lle, gm_Llt, gm_eq, gm_le, gm_lt, gm_m1, forall_eq, true_and, Nat.not_lt_zero, Nat.add_sub_cancel, gm_z2, gm_z3, gm_z9, gm_z16, gm_z18, gm_z32, gm_z36, gm_z64, gm_z1152, not_true_eq_false, not_false_eq_true, false_implies, true_implies, and_true, implies_true, lb_tEq, gm_dl, gm_sb, hst, hdn', er, e0, e1, e2, e3]
      rw [ep]
      refine ⟨fun z => absurd z (by omega), fun _ => br_f hb ?_⟩
      rcases G.1 with ⟨rfl, I, hini⟩ | ⟨rfl, wb, B⟩
      · obtain ⟨h, h5, eH, hway⟩ := I.2.1 st hst36 hse
        rw [eH]
        exact y_step g_types g_methods g_place g_result g_linked g_active g_ticks g_code b_above b_ownField b_mType b_mName b_mLength b_bytes b_starts se dn' H su b_objType b_objField b_marked b_global b_fMethod b_fPc b_fHigh b_fLocal b_fEntry F hm eL hn eN hD h5 (YI_open I hse hst36 k) G.2 hst36 eH hway hl hini (fun bad hi re lo H' se' su' G' _ => nxt _ _ _ _ _ _ _ G')
      · obtain ⟨b1, b2⟩ := B.1 st hst36 hse
        refine y_stepB g_types g_methods g_place g_result g_linked _ _ g_active g_ticks g_code b_above b_ownField b_mType b_mName b_mLength b_bytes b_starts se dn' H _ su b_objType b_objField b_marked b_global b_fMethod b_fPc b_fHigh b_fLocal b_fEntry F hm hD b1 b2 (fun hi re lo => nxt _ _ _ _ _ _ _ ⟨Or.inr ⟨rfl, wb, B.1, fun q h1 h2 => ?_⟩, G.2⟩)
        rcases (k q).mp h2 with z | z
        · exact B.2 q h1 z
        · subst z; exact hse
end
section
theorem y_154 (g_types g_methods g_place g_result g_linked g_active g_ticks g_code : Int32) (b_above b_ownField b_mType b_mName b_mLength b_bytes b_starts b_objType b_objField b_marked b_global b_fMethod b_fPc b_fHigh b_fLocal b_fEntry : Nat → Int32) {post : Int32 → SY → Prop} {J132 : Int32 → Int32 → Int32 → Int32 → Int32 → Int32 → Int32 → Int32 → Int32 → Int32 → Int32 → Int32 → Int32 → (Nat → Int32) → (Nat → Int32) → (Nat → Int32) → (Nat → Int32) → (Nat → Int32) → (Nat → Int32) → (Nat → Int32) → (Nat → Int64) → (Nat → Int64) → (Nat → Int32) → (Nat → Int32) → (Nat → Int32) → (Nat → Int32) → (Nat → Int32) → (Nat → Int32) → (Nat → Int32) → (Nat → Int32) → (Nat → Int32) → (Nat → Int32) → (Nat → Int32) → (Nat → Int32) → Prop} {m L nm tc c0 r : Nat} {D : Nat → Nat} {S : Nat → Prop} {su0 : Nat → Int32} (F : fo_OK tc L D S) (hm : m < 8) (eL : b_mLength m = nI L) (hn : nm < 16) (eN : b_mName m = nI nm) (hD : ∀ p, p < 33 → b_bytes (m * 32 + p) = nI (D p) ∧ D p < 256)
    (J : ∀ (x2 bad hi re : Int32) (lo H : Nat → Int32) (se dn : Nat → Int64) (su : Nat → Int32), GI m L nm D S su0 bad 99999 H se dn su → c0 ≤ cnP (sb dn) 36864 → (x2 = 0 ∨ x2 = 1) → (x2 = 1 → c0 < cnP (sb dn) 36864) → (x2 = 0 → ∀ w, w < 576 → se w = dn w) → J132 x2 (nI (r + 1)) g_types g_methods g_place g_result g_linked bad hi re g_active g_ticks g_code b_above b_ownField b_mType b_mName b_mLength b_bytes b_starts se dn H lo su b_objType b_objField b_marked b_global b_fMethod b_fPc b_fHigh b_fLocal b_fEntry) :
    ∀ d w, w + d = 576 → ∀ (x2 bad hi re : Int32) (lo H : Nat → Int32) (se dn : Nat → Int64) (su : Nat → Int32), GI m L nm D S su0 bad 99999 H se dn su → c0 ≤ cnP (sb dn) 36864 → (x2 = 0 ∨ x2 = 1) → (x2 = 1 → c0 < cnP (sb dn) 36864) → (x2 = 0 → ∀ w', w' < w → se w' = dn w') → wY_flowFault_154 post J132 (nI m) (nI r) (d + 1) x2 (nI w) g_types g_methods g_place g_result g_linked bad hi re g_active g_ticks g_code b_above b_ownField b_mType b_mName b_mLength b_bytes b_starts se dn H lo su b_objType b_objField b_marked b_global b_fMethod b_fPc b_fHigh b_fLocal b_fEntry := by
  intro d
  induction d with
  | zero =>
    intro w hw x2 bad hi re lo H se dn su G h0 hx h1 h2
    cases (show w = 576 by omega)
    unfold wY_flowFault_154
    exact br_t (by decide) (nm_r (nI_1 r) (J _ _ _ _ _ _ _ _ _ G h0 hx h1 h2))
  | succ d ih =>
    intro w hw x2 bad hi re lo H se dn su G h0 hx h1 h2
    unfold wY_flowFault_154
    refine br_f (nI_ge (b := 576) (by omega) (by decide)) ⟨vp_in_nI (by omega) (by omega), vp_in_nI (by omega) (by omega), ?_⟩
    rw [nI_clamp (by omega)]
    by_cases e : se w = dn w
    · refine br_t e (nm_r (nI_1 w) (ih (w + 1) (by omega) _ _ _ _ _ _ _ _ _ G h0 hx h1 (fun z w' hw' => ?_)))
      by_cases e2 : w' = w
      · subst e2; exact e
      · exact h2 z w' (by omega)
    · refine br_f e ⟨65, yg g_types g_methods g_place g_result g_linked g_active g_ticks g_code b_above b_ownField b_mType b_mName b_mLength b_bytes b_starts b_objType b_objField b_marked b_global b_fMethod b_fPc b_fHigh b_fLocal b_fEntry (c0 := cnP (sb dn) 36864) (se0 := se) (dn0 := dn) F hm eL hn eN hD (by omega) e (fun bad hi re lo H se' dn' su G' hc => nm_r (nI_1 w) (ih (w + 1) (by omega) _ _ _ _ _ _ _ _ _ G' (by omega) (Or.inr rfl) (fun _ => by omega) (fun z => absurd z (by decide)))) 64 0 rfl _ _ _ _ _ _ _ _ G (Nat.le_refl _) (Or.inr ⟨rfl, rfl, fun j z => absurd z (by omega)⟩)⟩
theorem y_132 (g_types g_methods g_place g_result g_linked g_active g_ticks g_code : Int32) (b_above b_ownField b_mType b_mName b_mLength b_bytes b_starts b_objType b_objField b_marked b_global b_fMethod b_fPc b_fHigh b_fLocal b_fEntry : Nat → Int32) {post : Int32 → SY → Prop} {m L nm tc : Nat} {D : Nat → Nat} {S : Nat → Prop} {su0 : Nat → Int32} (F : fo_OK tc L D S) (hm : m < 8) (eL : b_mLength m = nI L) (hn : nm < 16) (eN : b_mName m = nI nm) (hD : ∀ p, p < 33 → b_bytes (m * 32 + p) = nI (D p) ∧ D p < 256)
    (J : ∀ (bad hi re : Int32) (lo H : Nat → Int32) (se dn : Nat → Int64) (su : Nat → Int32), GI m L nm D S su0 bad 99999 H se dn su → (bad = 0 → ∀ w, w < 576 → se w = dn w) → post bad (g_types, g_methods, g_place, g_result, g_linked, bad, hi, re, g_active, g_ticks, g_code, b_above, b_ownField, b_mType, b_mName, b_mLength, b_bytes, b_starts, se, dn, H, lo, su, b_objType, b_objField, b_marked, b_global, b_fMethod, b_fPc, b_fHigh, b_fLocal, b_fEntry)) :
    ∀ d r, r + d = 36900 → ∀ (x2 bad hi re : Int32) (lo H : Nat → Int32) (se dn : Nat → Int64) (su : Nat → Int32), GI m L nm D S su0 bad 99999 H se dn su → (x2 = 0 ∨ x2 = 1) → (x2 = 1 → r ≤ cnP (sb dn) 36864) → (x2 = 0 → ∀ w, w < 576 → se w = dn w) → wY_flowFault_132 post (nI m) (d + 1) x2 (nI r) g_types g_methods g_place g_result g_linked bad hi re g_active g_ticks g_code b_above b_ownField b_mType b_mName b_mLength b_bytes b_starts se dn H lo su b_objType b_objField b_marked b_global b_fMethod b_fPc b_fHigh b_fLocal b_fEntry := by
  have nb : ∀ (bad : Int32) (e : Nat) (H : Nat → Int32) (se dn : Nat → Int64) (su : Nat → Int32), GI m L nm D S su0 bad e H se dn su → narrow .boolean (Value.int bad) = Value.int bad := by
    intro bad e H se dn su G
    rcases G.1 with ⟨rfl, -⟩ | ⟨rfl, -⟩ <;> rfl
  intro d
  induction d with
  | zero =>
    intro r hr x2 bad hi re lo H se dn su G hx h1 h0
    have hc := cnP_le (sb dn) 36864
    rcases hx with e0 | e1
    · unfold wY_flowFault_132
      exact br_f (nI_ge (b := 40000) (by omega) (by decide)) (br_t e0 ⟨nb _ _ _ _ _ _ G, J _ _ _ _ _ _ _ _ G (fun _ => h0 e0)⟩)
    · have := h1 e1
      omega
  | succ d ih =>
    intro r hr x2 bad hi re lo H se dn su G hx h1 h0
    have hc := cnP_le (sb dn) 36864
    rcases hx with e0 | e1
    · unfold wY_flowFault_132
      exact br_f (nI_ge (b := 40000) (by omega) (by decide)) (br_t e0 ⟨nb _ _ _ _ _ _ G, J _ _ _ _ _ _ _ _ G (fun _ => h0 e0)⟩)
    · have hr1 := h1 e1
      by_cases eb : bad = 0
      · -- one round, whatever it gives
        have key : ∀ n, (∀ (x2 bad hi re : Int32) (lo H : Nat → Int32) (se' dn' : Nat → Int64) (su : Nat → Int32), GI m L nm D S su0 bad 99999 H se' dn' su → (x2 = 0 ∨ x2 = 1) → (x2 = 1 → r + 1 ≤ cnP (sb dn') 36864) → (x2 = 0 → ∀ w, w < 576 → se' w = dn' w) → wY_flowFault_132 post (nI m) n x2 (nI (r + 1)) g_types g_methods g_place g_result g_linked bad hi re g_active g_ticks g_code b_above b_ownField b_mType b_mName b_mLength b_bytes b_starts se' dn' H lo su b_objType b_objField b_marked b_global b_fMethod b_fPc b_fHigh b_fLocal b_fEntry) → wY_flowFault_132 post (nI m) (n + 1) x2 (nI r) g_types g_methods g_place g_result g_linked bad hi re g_active g_ticks g_code b_above b_ownField b_mType b_mName b_mLength b_bytes b_starts se dn H lo su b_objType b_objField b_marked b_global b_fMethod b_fPc b_fHigh b_fLocal b_fEntry := by
          intro n K
          unfold wY_flowFault_132
          refine br_f (nI_ge (b := 40000) (by omega) (by decide)) (br_f (by rw [e1]; decide) (br_t eb ⟨577, ?_⟩))
          exact y_154 g_types g_methods g_place g_result g_linked g_active g_ticks g_code b_above b_ownField b_mType b_mName b_mLength b_bytes b_starts b_objType b_objField b_marked b_global b_fMethod b_fPc b_fHigh b_fLocal b_fEntry (c0 := cnP (sb dn) 36864) F hm eL hn eN hD (fun x2 bad hi re lo H se' dn' su G' c1 c2 c3 c4 => K _ _ _ _ _ _ _ _ _ G' c2 (fun z => by have := c3 z; omega) c4) 576 0 rfl _ _ _ _ _ _ _ _ _ G (Nat.le_refl _) (Or.inl rfl) (fun z => absurd z (by decide)) (fun _ w' z => absurd z (by omega))
        exact key (d + 1) (fun x2 bad hi re lo H se' dn' su G' c1 c2 c3 => ih (r + 1) (by omega) _ _ _ _ _ _ _ _ _ G' c1 c2 c3)
      · unfold wY_flowFault_132
        exact br_f (nI_ge (b := 40000) (by omega) (by decide)) (br_f (by rw [e1]; decide) (br_f eb ⟨nb _ _ _ _ _ _ G, J _ _ _ _ _ _ _ _ G (fun z => absurd z eb)⟩))
/-! ===== the start ===== -/
theorem y_2 (g_types g_methods g_place g_result g_linked g_bad g_high g_refs g_active g_ticks g_code : Int32) (b_above b_ownField b_mType b_mName b_mLength b_bytes b_starts b_heights b_local b_sure b_objType b_objField b_marked b_global b_fMethod b_fPc b_fHigh b_fLocal b_fEntry : Nat → Int32) {post : Int32 → SY → Prop} {x1 : Int32} (J : ∀ se dn : Nat → Int64, (∀ w, w < 576 → se w = 0 ∧ dn w = 0) → ∃ n31 : Nat, wY_flowFault_31 post x1 g_types g_methods g_place g_result g_linked g_bad g_high g_refs g_active g_ticks g_code n31 0 b_above b_ownField b_mType b_mName b_mLength b_bytes b_starts se dn b_heights b_local b_sure b_objType b_objField b_marked b_global b_fMethod b_fPc b_fHigh b_fLocal b_fEntry) : ∀ d j, j + d = 576 → ∀ se dn : Nat → Int64, (∀ w, w < j → se w = 0 ∧ dn w = 0) → wY_flowFault_2 post x1 g_types g_methods g_place g_result g_linked g_bad g_high g_refs g_active g_ticks g_code (d + 1) (nI j) b_above b_ownField b_mType b_mName b_mLength b_bytes b_starts se dn b_heights b_local b_sure b_objType b_objField b_marked b_global b_fMethod b_fPc b_fHigh b_fLocal b_fEntry := by
  intro d
  induction d with
  | zero =>
    intro j hj se dn h
    cases (show j = 576 by omega)
    unfold wY_flowFault_2
    exact br_t (by decide) (J se dn h)
  | succ d ih =>
    intro j hj se dn h
    unfold wY_flowFault_2
    simp (disch := omega) only [nI_clamp, gm_clL, gm_in, gm_inL, gm_ml, gm_al, gm_la, gm_sl, nI_add, pk_mul, gm_eqL, gm_leL, gm_ltL, gm_Lle, gm_Llt, gm_eq, gm_le, gm_lt, gm_m1, forall_eq, true_and, Nat.not_lt_zero, Nat.add_sub_cancel, gm_z2, gm_z3, gm_z9, gm_z16, gm_z18, gm_z32, gm_z36, gm_z64, gm_z1152, not_true_eq_false, not_false_eq_true, false_implies, true_implies, and_true, implies_true]
    refine ⟨fun z => absurd z (by omega), fun _ => ih (j + 1) (by omega) _ _ (fun w hw => ?_)⟩
    by_cases e : w = j
    · subst e; exact ⟨pk_uLs, pk_uLs⟩
    · rw [pk_uLn e, pk_uLn e]; exact h w (by omega)
theorem y_31 (g_types g_methods g_place g_result g_linked g_bad g_high g_refs g_active g_ticks g_code : Int32) (b_above b_ownField b_mType b_mName b_mLength b_bytes b_starts : Nat → Int32) (b_seen b_done : Nat → Int64) (b_local b_objType b_objField b_marked b_global b_fMethod b_fPc b_fHigh b_fLocal b_fEntry : Nat → Int32) {post : Int32 → SY → Prop} {m : Nat} {su0 : Nat → Int32} (hm : m < 8) (J : ∀ H su : Nat → Int32, (∀ q, q < 32 → H q = -1 ∧ su (m * 32 + q) = 511) → (∀ i, (i < m * 32 ∨ m * 32 + 32 ≤ i) → su i = su0 i) → wY_flowFault_31 post (nI m) g_types g_methods g_place g_result g_linked g_bad g_high g_refs g_active g_ticks g_code 1 (nI 32) b_above b_ownField b_mType b_mName b_mLength b_bytes b_starts b_seen b_done H b_local su b_objType b_objField b_marked b_global b_fMethod b_fPc b_fHigh b_fLocal b_fEntry) : ∀ d j, j + d = 32 → ∀ H su : Nat → Int32, (∀ q, q < j → H q = -1 ∧ su (m * 32 + q) = 511) → (∀ i, (i < m * 32 ∨ m * 32 + 32 ≤ i) → su i = su0 i) → wY_flowFault_31 post (nI m) g_types g_methods g_place g_result g_linked g_bad g_high g_refs g_active g_ticks g_code (d + 1) (nI j) b_above b_ownField b_mType b_mName b_mLength b_bytes b_starts b_seen b_done H b_local su b_objType b_objField b_marked b_global b_fMethod b_fPc b_fHigh b_fLocal b_fEntry := by
  intro d
  induction d with
  | zero =>
    intro j hj H su h1 h2
    cases (show j = 32 by omega)
    exact J H su h1 h2
  | succ d ih =>
    intro j hj H su h1 h2
    unfold wY_flowFault_31
    simp (disch := omega) only [nI_clamp, gm_clL, gm_in, gm_inL, gm_ml, gm_al, gm_la, gm_sl, nI_add, pk_mul, gm_eqL, gm_leL, gm_ltL, gm_Lle, gm_Llt, gm_eq, gm_le, gm_lt, gm_m1, forall_eq, true_and, Nat.not_lt_zero, Nat.add_sub_cancel, gm_z2, gm_z3, gm_z9, gm_z16, gm_z18, gm_z32, gm_z36, gm_z64, gm_z1152, not_true_eq_false, not_false_eq_true, false_implies, true_implies, and_true, implies_true]
    refine ⟨fun z => absurd z (by omega), fun _ => ih (j + 1) (by omega) _ _ (fun q hq => ?_) (fun i hi => ?_)⟩
    · by_cases e : q = j
      · subst e; exact ⟨pk_us, pk_us⟩
      · rw [pk_un e, pk_un (by omega)]; exact h1 q (by omega)
    · rw [pk_un (by omega)]; exact h2 i hi
theorem bt_511 : ∀ s, s < 9 → bt 511 s = true := by decide +kernel
theorem wy_i36 (nm : Nat) : wy_i nm < 36864 := wy_lt (by omega) (by omega) (by omega) (by split <;> omega) (by omega) (by omega)
/-- the reference's check of the flow -/
theorem yf_all (g_types g_methods g_place g_result g_linked g_bad g_high g_refs g_active g_ticks g_code : Int32) (b_above b_ownField b_mType b_mName b_mLength b_bytes b_starts : Nat → Int32) (b_seen b_done : Nat → Int64) (b_heights b_local b_sure b_objType b_objField b_marked b_global b_fMethod b_fPc b_fHigh b_fLocal b_fEntry : Nat → Int32) {post : Int32 → SY → Prop} {m L nm tc : Nat} {D : Nat → Nat} {S : Nat → Prop} (F : fo_OK tc L D S) (hm : m < 8) (eL : b_mLength m = nI L) (hn : nm < 16) (eN : b_mName m = nI nm) (hD : ∀ p, p < 33 → b_bytes (m * 32 + p) = nI (D p) ∧ D p < 256)
    (J1 : WBad D L nm → ∀ (bad hi re : Int32) (lo H : Nat → Int32) (se dn : Nat → Int64) (su : Nat → Int32), (∀ i, (i < m * 32 ∨ m * 32 + 32 ≤ i) → su i = b_sure i) → post 1 (g_types, g_methods, g_place, g_result, g_linked, bad, hi, re, g_active, g_ticks, g_code, b_above, b_ownField, b_mType, b_mName, b_mLength, b_bytes, b_starts, se, dn, H, lo, su, b_objType, b_objField, b_marked, b_global, b_fMethod, b_fPc, b_fHigh, b_fLocal, b_fEntry))
    (J0 : ¬ WBad D L nm → ∀ (bad hi re : Int32) (lo H : Nat → Int32) (se dn : Nat → Int64) (su : Nat → Int32), (∀ i, (i < m * 32 ∨ m * 32 + 32 ≤ i) → su i = b_sure i) → (∀ p, p < L → ∀ s, s < 9 → (bt (su (m * 32 + p)) s = true ↔ AllR D L nm p s)) → post 0 (g_types, g_methods, g_place, g_result, g_linked, bad, hi, re, g_active, g_ticks, g_code, b_above, b_ownField, b_mType, b_mName, b_mLength, b_bytes, b_starts, se, dn, H, lo, su, b_objType, b_objField, b_marked, b_global, b_fMethod, b_fPc, b_fHigh, b_fLocal, b_fEntry)) :
    wpY_flowFault post (g_types, g_methods, g_place, g_result, g_linked, g_bad, g_high, g_refs, g_active, g_ticks, g_code, b_above, b_ownField, b_mType, b_mName, b_mLength, b_bytes, b_starts, b_seen, b_done, b_heights, b_local, b_sure, b_objType, b_objField, b_marked, b_global, b_fMethod, b_fPc, b_fHigh, b_fLocal, b_fEntry) (nI m) := by
  have hL := F.2.1
  -- the end
  have fin : ∀ (bad hi re : Int32) (lo H : Nat → Int32) (se dn : Nat → Int64) (su : Nat → Int32), GI m L nm D S b_sure bad 99999 H se dn su → (bad = 0 → ∀ w, w < 576 → se w = dn w) → post bad (g_types, g_methods, g_place, g_result, g_linked, bad, hi, re, g_active, g_ticks, g_code, b_above, b_ownField, b_mType, b_mName, b_mLength, b_bytes, b_starts, se, dn, H, lo, su, b_objType, b_objField, b_marked, b_global, b_fMethod, b_fPc, b_fHigh, b_fLocal, b_fEntry) := by
    intro bad hi re lo H se dn su G he
    rcases G.1 with ⟨rfl, I, hs0, hH0⟩ | ⟨rfl, wb, B⟩
    · have hse := he rfl
      have hall : ∀ st h, Way D L nm st h → sb se st ∧ H (wy_p st) = nI h := by
        intro st h w
        have key : WV L S st h ∧ st < 36864 ∧ sb se st ∧ H (wy_p st) = nI h := by
          refine w (fun st h => WV L S st h ∧ st < 36864 ∧ sb se st ∧ H (wy_p st) = nI h) ⟨way_v F (way_i D L nm), wy_i36 nm, hs0, by rw [wy_iD.1]; exact hH0⟩ (fun st h p' v hok hs hp' => ?_)
          obtain ⟨⟨v1, v2, v3, v4⟩, k1, k2, k3⟩ := v
          have hb := (fo_b4 F v1 v2).1
          have hdn : sb dn st := by
            unfold sb at k2 ⊢
            rw [← hse (st / 64) (by omega)]
            exact k2
          obtain ⟨c1, c2⟩ := I.2.2.2.2.2 st k1 hdn (by omega) h v3 k3
          obtain ⟨d1, d2, d3⟩ := c2 p' hs
          obtain ⟨n1, n2, n3⟩ := wy_nxD (p' := p') hb hok v3
          obtain ⟨b1, b2⟩ := wy_nrB hb hok v3
          obtain ⟨l0, l1, l2, l3⟩ := wy_nlB hok
          have hb3 := wy_p5 (wy_h (D (wy_p st)) h) (by omega)
          refine ⟨⟨by rw [n1]; exact hp', by rw [n1]; exact fo_su F v1 v2 hs hp', b2, by rw [n2]; exact b1⟩, wy_lt (by omega) (by omega) l0 l1 l2 l3, d3, by rw [n1]; exact d2⟩
        exact key.2.2
      have nb : ¬ WBad D L nm := by
        rintro ⟨st, h, w, z⟩
        obtain ⟨v1, v2, v3, v4⟩ := way_v F w
        obtain ⟨k2, k3⟩ := hall st h w
        have k1 : st < 36864 := by have := F.2.1; unfold wy_p at v1; omega
        have hdn : sb dn st := by
          unfold sb at k2 ⊢
          rw [← hse (st / 64) (by omega)]
          exact k2
        obtain ⟨c1, c2⟩ := I.2.2.2.2.2 st k1 hdn (by omega) h v3 k3
        rcases z with z | ⟨p', hs, z⟩ | ⟨st', h', w', ep, hne⟩
        · exact z c1
        · have := (c2 p' hs).1; omega
        · obtain ⟨-, -, v3', -⟩ := way_v F w'
          obtain ⟨-, k3'⟩ := hall st' h' w'
          rw [ep, k3] at k3'
          exact hne (gp_inj (by omega) (by omega) k3').symm
      refine J0 nb _ _ _ _ _ _ _ _ G.2 (fun p hp s hs => ?_)
      rw [I.2.2.2.2.1 p hp s hs]
      constructor
      · intro a st h w ep
        obtain ⟨v1, v2, v3, v4⟩ := way_v F w
        exact a st (by unfold wy_p at v1; omega) (hall st h w).1 ep
      · intro a st k1 k2 ep
        obtain ⟨h, -, -, w⟩ := I.2.1 st k1 k2
        exact a st h w ep
    · exact J1 wb _ _ _ _ _ _ _ _ G.2
  refine ⟨577, y_2 g_types g_methods g_place g_result g_linked g_bad g_high g_refs g_active g_ticks g_code b_above b_ownField b_mType b_mName b_mLength b_bytes b_starts b_heights b_local b_sure b_objType b_objField b_marked b_global b_fMethod b_fPc b_fHigh b_fLocal b_fEntry (fun se dn hz => ⟨33, y_31 g_types g_methods g_place g_result g_linked g_bad g_high g_refs g_active g_ticks g_code b_above b_ownField b_mType b_mName b_mLength b_bytes b_starts se dn b_local b_objType b_objField b_marked b_global b_fMethod b_fPc b_fHigh b_fLocal b_fEntry (su0 := b_sure) hm (fun H su k1 k2 => ?_) 32 0 rfl _ _ (fun q z => absurd z (by omega)) (fun _ _ => rfl)⟩) 576 0 rfl _ _ (fun w z => absurd z (by omega))⟩
  have nse : ∀ st, st < 36864 → ¬ sb se st := fun st hst z => by
    unfold sb at z
    rw [(hz (st / 64) (by omega)).1, lb_0] at z
    exact nomatch z
  have ndn : ∀ st, st < 36864 → ¬ sb dn st := fun st hst z => by
    unfold sb at z
    rw [(hz (st / 64) (by omega)).2, lb_0] at z
    exact nomatch z
  have I0 : YI m L nm D 99999 H se dn su := by
    refine ⟨fun p hp => Or.inl (k1 p hp).1, fun st h1 h2 => absurd h2 (nse st h1), fun p hp h hh e => ?_, fun st h1 h2 => absurd h2 (ndn st h1), fun p hp s hs => ?_, fun st h1 h2 => absurd h2 (ndn st h1)⟩
    · rw [(k1 p hp).1] at e
      exact absurd e.symm (fun z => gp_m1n (by omega) z)
    · rw [(k1 p (by omega)).2]
      exact ⟨fun _ st h1 h2 => absurd h2 (nse st h1), fun _ => bt_511 s hs⟩
  obtain ⟨i1, i2, i3, i4, i5, i6⟩ := wy_iD (nm := nm)
  have cont : ∀ z0 : Nat, z0 = wy_c (wy_i nm) 1 → wY_flowFault_107 post (nI m) (nI z0) 1 g_types g_methods g_place g_result g_linked 0 (nI 0) (nI (wy_r (wy_i nm))) g_active g_ticks g_code b_above b_ownField b_mType b_mName b_mLength b_bytes b_starts se dn H (upd b_local 0 1) su b_objType b_objField b_marked b_global b_fMethod b_fPc b_fHigh b_fLocal b_fEntry := by
    intro z0 ez
    unfold wY_flowFault_107
    refine ⟨vp_in_nI (n := 1) (by omega) (by omega), nm_e (nm_e (nm_e ?_))⟩
    refine rc1 g_types g_methods g_place g_result g_linked g_active g_ticks g_code b_above b_ownField b_mType b_mName b_mLength b_bytes b_starts se dn H (upd (upd (upd (upd b_local 0 1) 1 (nI z0)) 2 2) 3 2) su b_objType b_objField b_marked b_global b_fMethod b_fPc b_fHigh b_fLocal b_fEntry (p' := 0) (h' := 0) (st' := wy_i nm) (su0 := b_sure) F hm eL (by omega) (by omega) I0 k2 (fun s hs => ?_) i1 (fun z => absurd F.1 (by omega)) (fun _ => way_i D L nm) (fun wb => ?_) (fun hp' H' se' su' I' hs' eh' hm' hb' hse' => ?_)
    · rcases (by omega : s = 0 ∨ s = 1 ∨ s = 2 ∨ s = 3) with rfl | rfl | rfl | rfl
      · rw [i3]; rfl
      · rw [← ez]; rfl
      · rw [i5]; rfl
      · rw [i6]; rfl
    · exact ⟨36901, y_132 g_types g_methods g_place g_result g_linked g_active g_ticks g_code b_above b_ownField b_mType b_mName b_mLength b_bytes b_starts b_objType b_objField b_marked b_global b_fMethod b_fPc b_fHigh b_fLocal b_fEntry F hm eL hn eN hD fin 36900 0 rfl 1 1 _ _ _ _ _ _ _ ⟨Or.inr ⟨rfl, wb, YI_BM F I0⟩, k2⟩ (Or.inr rfl) (fun _ => by omega) (fun z => absurd z (by decide))⟩
    · exact ⟨36901, y_132 g_types g_methods g_place g_result g_linked g_active g_ticks g_code b_above b_ownField b_mType b_mName b_mLength b_bytes b_starts b_objType b_objField b_marked b_global b_fMethod b_fPc b_fHigh b_fLocal b_fEntry F hm eL hn eN hD fin 36900 0 rfl 1 0 _ _ _ _ _ _ _ ⟨Or.inl ⟨rfl, I', hb', eh'⟩, hs'⟩ (Or.inr rfl) (fun _ => by omega) (fun z => absurd z (by decide))⟩
  unfold wY_flowFault_31
  refine br_t (by decide) (nm_e ⟨vp_in_nI hm (by omega), ?_⟩)
  rw [nI_clamp (by omega), eN]
  have h4 := gk_and4 nm (by omega)
  by_cases e : nm / 4 % 2 = 0
  · refine br_t (h4.mpr e) ?_
    have := cont 0 (by rw [i4, if_pos e])
    rw [i2] at this
    exact this
  · refine br_f (fun z => e (h4.mp z)) ?_
    have := cont 1 (by rw [i4, if_neg e])
    rw [i2] at this
    exact this
end
section
def lkD (by' : Nat → Int32) (m p : Nat) : Nat := gm_n (by' (m * 32 + p))
def lkOK (tc : Nat) (mL mN by' : Nat → Int32) (m : Nat) : Prop := fnP tc (gm_n (mL m)) (lkD by' m) ∧ ¬ WBad (lkD by' m) (gm_n (mL m)) (gm_n (mN m))
/-- what the class found of method m -/
def lkX (m tc : Nat) (mL mN by' H K : Nat → Int32) : Prop := ∃ S : Nat → Prop, fo_OK tc (gm_n (mL m)) (lkD by' m) S ∧ H (m * 32) = nI 0 ∧ (∀ s, s < 4 → kd_in (wy_c (wy_i (gm_n (mN m))) s) (gm_n (K ((m * 32 + 0) * 9 + s)))) ∧
  ∀ p, p < gm_n (mL m) → ∀ h, h ≤ 5 → H (m * 32 + p) = nI h → S p ∧ (∀ s, s < 4 + h → ∃ a, 0 < a ∧ a < 8 ∧ K ((m * 32 + p) * 9 + s) = nI a) ∧ xc m (gm_n (mL m)) (gm_n (mN m)) (lkD by' m) H K p h ∧ (∀ s, s < 4 + h → (K ((m * 32 + p) * 9 + s) = 4 ↔ AllR (lkD by' m) (gm_n (mL m)) (gm_n (mN m)) p s))
def lkY (m : Nat) (mL mN by' su : Nat → Int32) : Prop := ∀ p, p < gm_n (mL m) → ∀ s, s < 9 → (bt (su (m * 32 + p)) s = true ↔ AllR (lkD by' m) (gm_n (mL m)) (gm_n (mN m)) p s)
theorem lk_mk {m tc : Nat} {mL mN by' H K su : Nat → Int32} (x : lkX m tc mL mN by' H K) (y : lkY m mL mN by' su) : mk_OK m tc (gm_n (mL m)) (gm_n (mN m)) by' H K su := by
  obtain ⟨S, x1, x2, x3, x4⟩ := x
  refine ⟨S, x1, x2, x3, fun p hp h hh e => ?_⟩
  obtain ⟨a1, a2, ⟨a3, a4⟩, a5⟩ := x4 p hp h hh e
  exact ⟨a1, a2, a3, a4, fun s hs => (a5 s hs).trans (y p hp s (by omega)).symm⟩
theorem lkX_fr {m m' tc : Nat} {mL mN by' H K H' K' : Nat → Int32} (hL : gm_n (mL m') ≤ 32) (f : XFr m H K H' K') (hne : m' ≠ m) (x : lkX m' tc mL mN by' H K) : lkX m' tc mL mN by' H' K' := by
  obtain ⟨S, x1, x2, x3, x4⟩ := x
  have eH : ∀ p, p < 32 → H' (m' * 32 + p) = H (m' * 32 + p) := fun p hp => f.1 _ (by omega)
  have eK : ∀ p s, p < 32 → s < 9 → K' ((m' * 32 + p) * 9 + s) = K ((m' * 32 + p) * 9 + s) := fun p s hp hs => f.2 _ (by omega)
  have ek : ∀ p s, p < 32 → s < 9 → kk m' K' p s = kk m' K p s := fun p s hp hs => by unfold kk; rw [eK p s hp hs]
  refine ⟨S, x1, by have := eH 0 (by omega); rw [Nat.add_zero] at this; rw [this]; exact x2, fun s hs => by rw [eK 0 s (by omega) (by omega)]; exact x3 s hs, fun p hp h hh e => ?_⟩
  rw [eH p (by omega)] at e
  obtain ⟨a1, a2, ⟨a3, a4⟩, a5⟩ := x4 p hp h hh e
  have hb4 := fo_b4 x1 hp a1
  obtain ⟨c1, c2⟩ := xk_cg hb4.1 (fun s hs => ek p s (by omega) (by omega)) a3
  have h5' := xk_h5 hh a3
  refine ⟨a1, fun s hs => by rw [eK p s (by omega) (by omega)]; exact a2 s hs, ⟨c1, fun q hq => ?_⟩, fun s hs => by rw [eK p s (by omega) (by omega)]; exact a5 s hs⟩
  obtain ⟨d1, d2, d3⟩ := a4 q hq
  refine ⟨d1, by rw [eH q (by omega)]; exact d2, fun s hs => ?_⟩
  rw [c2 s hs, ek q s (by omega) (by omega)]
  exact d3 s hs
theorem lx (f_linked f_faultPlace f_active f_ticksLeft f_outcome f_latestResult : Int32) (a_typeAbove a_fieldSet a_methodType a_methodName a_codeLength a_bytes a_globals a_objectType a_fieldValue a_isMarked a_frameMethod a_frameAt a_frameHeight a_slots : Nat → Int32) {tc mc : Nat} {ab fs own : Nat → Int32} (P : rl_P tc mc ab fs own a_methodName a_codeLength a_bytes) :
    ∀ d m, m + d = mc → ∀ (fh : Int32) (xs H K W FK : Nat → Int32), (∀ i, ∃ a, a < 8 ∧ K i = nI a) → (∀ m', m' < m → lkX m' tc a_codeLength a_methodName a_bytes H K) →
    (∃ m1 q, m1 < mc ∧ m ≤ m1 ∧ q < 32 ∧ (∀ m', m ≤ m' → m' < m1 → lkOK tc a_codeLength a_methodName a_bytes m') ∧ fqP tc (gm_n (a_codeLength m1)) (lkD a_bytes m1) q ∧ ∃ (fh' : Int32) (xs' H' K' W' FK' : Nat → Int32), (∀ i, ∃ a, a < 8 ∧ K' i = nI a) ∧ ∀ post : Int32 → SX → Prop, post 1 (nI tc, nI mc, f_linked, nI (m1 * 32 + q), fh', f_active, f_ticksLeft, f_outcome, f_latestResult, a_typeAbove, a_fieldSet, a_methodType, a_methodName, a_codeLength, a_bytes, xs', H', K', W', FK', a_globals, a_objectType, a_fieldValue, a_isMarked, a_frameMethod, a_frameAt, a_frameHeight, a_slots) → wX_link_25 post (d + 1) (nI m) (nI tc) (nI mc) f_linked f_faultPlace fh f_active f_ticksLeft f_outcome f_latestResult a_typeAbove a_fieldSet a_methodType a_methodName a_codeLength a_bytes xs H K W FK a_globals a_objectType a_fieldValue a_isMarked a_frameMethod a_frameAt a_frameHeight a_slots) ∨
    (∃ m1, m1 < mc ∧ m ≤ m1 ∧ (∀ m', m ≤ m' → m' < m1 → lkOK tc a_codeLength a_methodName a_bytes m') ∧ fnP tc (gm_n (a_codeLength m1)) (lkD a_bytes m1) ∧ WBad (lkD a_bytes m1) (gm_n (a_codeLength m1)) (gm_n (a_methodName m1)) ∧ ∃ (fh' : Int32) (xs' H' K' W' FK' : Nat → Int32), (∀ i, ∃ a, a < 8 ∧ K' i = nI a) ∧ ∀ post : Int32 → SX → Prop, post 2 (nI tc, nI mc, f_linked, nI (m1 * 32), fh', f_active, f_ticksLeft, f_outcome, f_latestResult, a_typeAbove, a_fieldSet, a_methodType, a_methodName, a_codeLength, a_bytes, xs', H', K', W', FK', a_globals, a_objectType, a_fieldValue, a_isMarked, a_frameMethod, a_frameAt, a_frameHeight, a_slots) → wX_link_25 post (d + 1) (nI m) (nI tc) (nI mc) f_linked f_faultPlace fh f_active f_ticksLeft f_outcome f_latestResult a_typeAbove a_fieldSet a_methodType a_methodName a_codeLength a_bytes xs H K W FK a_globals a_objectType a_fieldValue a_isMarked a_frameMethod a_frameAt a_frameHeight a_slots) ∨
    ((∀ m', m ≤ m' → m' < mc → lkOK tc a_codeLength a_methodName a_bytes m') ∧ ∃ (fh' : Int32) (xs' H' K' W' FK' : Nat → Int32), (∀ i, ∃ a, a < 8 ∧ K' i = nI a) ∧ (∀ m', m' < mc → lkX m' tc a_codeLength a_methodName a_bytes H' K') ∧ ∀ post : Int32 → SX → Prop, post 0 (nI tc, nI mc, 1, f_faultPlace, fh', f_active, f_ticksLeft, f_outcome, f_latestResult, a_typeAbove, a_fieldSet, a_methodType, a_methodName, a_codeLength, a_bytes, xs', H', K', W', FK', a_globals, a_objectType, a_fieldValue, a_isMarked, a_frameMethod, a_frameAt, a_frameHeight, a_slots) → wX_link_25 post (d + 1) (nI m) (nI tc) (nI mc) f_linked f_faultPlace fh f_active f_ticksLeft f_outcome f_latestResult a_typeAbove a_fieldSet a_methodType a_methodName a_codeLength a_bytes xs H K W FK a_globals a_objectType a_fieldValue a_isMarked a_frameMethod a_frameAt a_frameHeight a_slots) := by
  obtain ⟨h5, h8, -, pN, pL, pB, -⟩ := P
  intro d
  induction d with
  | zero =>
    intro m hm fh xs H K W FK KB hX
    cases (show m = mc by omega)
    refine Or.inr (Or.inr ⟨fun m' h1 h2 => absurd h2 (by omega), fh, xs, H, K, W, FK, KB, hX, fun post J => ?_⟩)
    unfold wX_link_25
    exact br_t (nI_le (by omega) (by omega)) J
  | succ d ih =>
    intro m hm fh xs H K W FK KB hX
    have hm8 : m < 8 := by omega
    have nle : ¬ nI mc ≤ nI m := nI_ge (by omega) (by omega)
    obtain ⟨L1, L2⟩ := pL m
    obtain ⟨N1, N2⟩ := pN m
    have hD : ∀ p, p < 33 → a_bytes (m * 32 + p) = nI (lkD a_bytes m p) ∧ lkD a_bytes m p < 256 := fun p _ => ⟨(pB _).2, (pB _).1⟩
    rcases fm_both (nI mc) f_linked f_faultPlace fh f_active f_ticksLeft f_outcome f_latestResult a_typeAbove a_fieldSet a_methodType a_methodName a_codeLength a_bytes xs H K W FK a_globals a_objectType a_fieldValue a_isMarked a_frameMethod a_frameAt a_frameHeight a_slots 0 0 0 0 0 0 0 0 0 0 (fun _ => 0) (fun _ => 0) (fun _ => 0) (fun _ => 0) a_codeLength (fun _ => 0) (fun _ => 0) (fun _ => 0) (fun _ => 0) (fun _ => 0) (fun _ => 0) (fun _ => 0) (fun _ => 0) (fun _ => 0) (fun _ => 0) (fun _ => 0) (fun _ => 0) (fun _ => 0) (fun _ => 0) (fun _ => 0) hm8 L1 h5 L2 L2 hD with ⟨q, xs', -, hq, fq, wX, -⟩ | ⟨S, xs', -, F, fn, wX, -⟩
    · refine Or.inl ⟨m, q, by omega, by omega, hq, fun m' h1 h2 => absurd h2 (by omega), fq, fh, xs', H, K, W, FK, KB, fun post J => ?_⟩
      unfold wX_link_25
      refine br_f nle (wX _ (br_f (by rw [gm_m1 (by omega)]; exact id) (nm_r ?_ J)))
      simp (disch := omega) only [gm_ml, nI_add]
    · rcases xf_all (nI tc) (nI mc) f_linked f_faultPlace fh f_active f_ticksLeft f_outcome f_latestResult a_typeAbove a_fieldSet a_methodType a_methodName a_codeLength a_bytes xs' H K W FK a_globals a_objectType a_fieldValue a_isMarked a_frameMethod a_frameAt a_frameHeight a_slots F hm8 L2 N1 N2 hD KB with ⟨wb, fh1, FK1, H1, K1, W1, KB1, fr, wX2⟩ | ⟨nb, fh1, FK1, H1, K1, W1, I1, nw, e0, k0, fr, wX2⟩
      · refine Or.inr (Or.inl ⟨m, by omega, by omega, fun m' h1 h2 => absurd h2 (by omega), fn, wb, fh1, xs', H1, K1, W1, FK1, KB1, fun post J => ?_⟩)
        unfold wX_link_25
        exact br_f nle (wX _ (br_t rfl (wX2 _ (br_t rfl (nm_r (pk_mul m 32) J)))))
      · have hXm : lkX m tc a_codeLength a_methodName a_bytes H1 K1 := by
          refine ⟨S, F, e0, k0, fun p hp h hh e => ?_⟩
          obtain ⟨a1, a2⟩ := I1.2.2.1 p hp h hh e
          exact ⟨a1, fun s hs => ⟨_, a2 s hs, (kk_8 I1 p s).1, (kk_8 I1 p s).2⟩, I1.2.2.2.2 p hp h hh e (nw p hp) (by omega), fun s hs => xf_ref F I1 nw e0 k0 hp hh e hs⟩
        have hX1 : ∀ m', m' < m + 1 → lkX m' tc a_codeLength a_methodName a_bytes H1 K1 := by
          intro m' hm'
          by_cases e : m' = m
          · subst e; exact hXm
          · exact lkX_fr (pL m').1 fr e (hX m' (by omega))
        have walk : ∀ post : Int32 → SX → Prop, wX_link_25 post (d + 1) (nI (m + 1)) (nI tc) (nI mc) f_linked f_faultPlace fh1 f_active f_ticksLeft f_outcome f_latestResult a_typeAbove a_fieldSet a_methodType a_methodName a_codeLength a_bytes xs' H1 K1 W1 FK1 a_globals a_objectType a_fieldValue a_isMarked a_frameMethod a_frameAt a_frameHeight a_slots → wX_link_25 post (d + 1 + 1) (nI m) (nI tc) (nI mc) f_linked f_faultPlace fh f_active f_ticksLeft f_outcome f_latestResult a_typeAbove a_fieldSet a_methodType a_methodName a_codeLength a_bytes xs H K W FK a_globals a_objectType a_fieldValue a_isMarked a_frameMethod a_frameAt a_frameHeight a_slots := by
          intro post J
          unfold wX_link_25
          exact br_f nle (wX _ (br_t rfl (wX2 _ (br_f (by decide) (nm_r (nI_1 m) J)))))
        have pm : ∀ {m1 : Nat}, (∀ m', m + 1 ≤ m' → m' < m1 → lkOK tc a_codeLength a_methodName a_bytes m') → ∀ m', m ≤ m' → m' < m1 → lkOK tc a_codeLength a_methodName a_bytes m' := by
          intro m1 h m' h1 h2
          by_cases e : m' = m
          · subst e; exact ⟨fn, nb⟩
          · exact h m' (by omega) h2
        rcases ih (m + 1) (by omega) fh1 xs' H1 K1 W1 FK1 I1.1 hX1 with ⟨m1, q, b1, b2, b3, b4, b5, fh2, xs2, H2, K2, W2, FK2, KB2, J2⟩ | ⟨m1, b1, b2, b3, b4, b5, fh2, xs2, H2, K2, W2, FK2, KB2, J2⟩ | ⟨b1, fh2, xs2, H2, K2, W2, FK2, KB2, hX2, J2⟩
        · exact Or.inl ⟨m1, q, b1, by omega, b3, pm b4, b5, fh2, xs2, H2, K2, W2, FK2, KB2, fun post J => walk post (J2 post J)⟩
        · exact Or.inr (Or.inl ⟨m1, b1, by omega, pm b3, b4, b5, fh2, xs2, H2, K2, W2, FK2, KB2, fun post J => walk post (J2 post J)⟩)
        · exact Or.inr (Or.inr ⟨pm b1, fh2, xs2, H2, K2, W2, FK2, KB2, hX2, fun post J => walk post (J2 post J)⟩)
theorem ly (g_place g_result g_linked g_active g_ticks g_code : Int32) (b_above b_ownField b_mType b_mName b_mLength b_bytes b_objType b_objField b_marked b_global b_fMethod b_fPc b_fHigh b_fLocal b_fEntry : Nat → Int32) {post : Int32 → SY → Prop} {tc mc : Nat} {ab fs own : Nat → Int32} (P : rl_P tc mc ab fs own b_mName b_mLength b_bytes)
    (J1 : ∀ m1 q, m1 < mc → (∀ m', m' < m1 → lkOK tc b_mLength b_mName b_bytes m') → fqP tc (gm_n (b_mLength m1)) (lkD b_bytes m1) q → ∀ (bad hi re : Int32) (lo H ys : Nat → Int32) (se dn : Nat → Int64) (su : Nat → Int32), post 1 (nI tc, nI mc, nI (m1 * 32 + q), g_result, g_linked, bad, hi, re, g_active, g_ticks, g_code, b_above, b_ownField, b_mType, b_mName, b_mLength, b_bytes, ys, se, dn, H, lo, su, b_objType, b_objField, b_marked, b_global, b_fMethod, b_fPc, b_fHigh, b_fLocal, b_fEntry))
    (J2 : ∀ m1, m1 < mc → (∀ m', m' < m1 → lkOK tc b_mLength b_mName b_bytes m') → fnP tc (gm_n (b_mLength m1)) (lkD b_bytes m1) → WBad (lkD b_bytes m1) (gm_n (b_mLength m1)) (gm_n (b_mName m1)) → ∀ (bad hi re : Int32) (lo H ys : Nat → Int32) (se dn : Nat → Int64) (su : Nat → Int32), post 2 (nI tc, nI mc, nI (m1 * 32), g_result, g_linked, bad, hi, re, g_active, g_ticks, g_code, b_above, b_ownField, b_mType, b_mName, b_mLength, b_bytes, ys, se, dn, H, lo, su, b_objType, b_objField, b_marked, b_global, b_fMethod, b_fPc, b_fHigh, b_fLocal, b_fEntry))
    (J0 : (∀ m', m' < mc → lkOK tc b_mLength b_mName b_bytes m') → ∀ (bad hi re : Int32) (lo H ys : Nat → Int32) (se dn : Nat → Int64) (su : Nat → Int32), (∀ m', m' < mc → lkY m' b_mLength b_mName b_bytes su) → post 0 (nI tc, nI mc, g_place, g_result, 1, bad, hi, re, g_active, g_ticks, g_code, b_above, b_ownField, b_mType, b_mName, b_mLength, b_bytes, ys, se, dn, H, lo, su, b_objType, b_objField, b_marked, b_global, b_fMethod, b_fPc, b_fHigh, b_fLocal, b_fEntry)) :
    ∀ d m, m + d = mc → (∀ m', m' < m → lkOK tc b_mLength b_mName b_bytes m') → ∀ (bad hi re : Int32) (lo H ys : Nat → Int32) (se dn : Nat → Int64) (su : Nat → Int32), (∀ m', m' < m → lkY m' b_mLength b_mName b_bytes su) → wY_link_30 post (d + 1) (nI m) (nI tc) (nI mc) g_place g_result g_linked bad hi re g_active g_ticks g_code b_above b_ownField b_mType b_mName b_mLength b_bytes ys se dn H lo su b_objType b_objField b_marked b_global b_fMethod b_fPc b_fHigh b_fLocal b_fEntry := by
  obtain ⟨h5, h8, -, pN, pL, pB, -⟩ := P
  intro d
  induction d with
  | zero =>
    intro m hm hp bad hi re lo H ys se dn su hY
    cases (show m = mc by omega)
    unfold wY_link_30
    exact br_t (nI_le (by omega) (by omega)) (J0 hp _ _ _ _ _ _ _ _ _ hY)
  | succ d ih =>
    intro m hm hp bad hi re lo H ys se dn su hY
    have hm8 : m < 8 := by omega
    have nle : ¬ nI mc ≤ nI m := nI_ge (by omega) (by omega)
    obtain ⟨L1, L2⟩ := pL m
    obtain ⟨N1, N2⟩ := pN m
    have hD : ∀ p, p < 33 → b_bytes (m * 32 + p) = nI (lkD b_bytes m p) ∧ lkD b_bytes m p < 256 := fun p _ => ⟨(pB _).2, (pB _).1⟩
    unfold wY_link_30
    refine br_f nle ?_
    rcases fm_both 0 0 0 0 0 0 0 0 (fun _ => 0) (fun _ => 0) (fun _ => 0) (fun _ => 0) b_mLength b_bytes (fun _ => 0) (fun _ => 0) (fun _ => 0) (fun _ => 0) (fun _ => 0) (fun _ => 0) (fun _ => 0) (fun _ => 0) (fun _ => 0) (fun _ => 0) (fun _ => 0) (fun _ => 0) (fun _ => 0) (nI mc) g_place g_result g_linked bad hi re g_active g_ticks g_code b_above b_ownField b_mType b_mName b_mLength ys se dn H lo su b_objType b_objField b_marked b_global b_fMethod b_fPc b_fHigh b_fLocal b_fEntry hm8 L1 h5 L2 L2 hD with ⟨q, -, ys', hq, fq, -, wY⟩ | ⟨S, -, ys', F, fn, -, wY⟩
    · refine wY _ (br_f (nI_pos (by omega)) (nm_r ?_ (J1 m q (by omega) hp fq _ _ _ _ _ _ _ _ _)))
      simp (disch := omega) only [gm_ml, nI_add]
    · refine wY _ (br_t (by decide) (yf_all (nI tc) (nI mc) g_place g_result g_linked bad hi re g_active g_ticks g_code b_above b_ownField b_mType b_mName b_mLength b_bytes ys' se dn H lo su b_objType b_objField b_marked b_global b_fMethod b_fPc b_fHigh b_fLocal b_fEntry F hm8 L2 N1 N2 hD (fun wb bad hi re lo H se dn su fr => br_f (by decide) (nm_r (pk_mul m 32) (J2 m (by omega) hp fn wb _ _ _ _ _ _ _ _ _))) (fun nb bad hi re lo H se dn su' fr hs => br_t rfl (nm_r (nI_1 m) (ih (m + 1) (by omega) (fun m' h' => ?_) _ _ _ _ _ _ _ _ _ (fun m' h' => ?_))))))
      · by_cases e : m' = m
        · subst e; exact ⟨fn, nb⟩
        · exact hp m' (by omega)
      · by_cases e : m' = m
        · subst e; exact hs
        · intro p hp2 s hs2
          have := (pL m').1
          rw [fr _ (by omega)]
          exact hY m' (by omega) p hp2 s hs2
theorem i_vc_link {k : Nat} {u : SX} {v : SY} (I : i_Rel k u v) (hk : k + 4 ≤ 2048) : wpX_link (fun r u' => wpY_link (fun r' v' => r' = r ∧ i_Rel (k + 4) u' v') v) u := by
  obtain ⟨f_typeCount, f_methodCount, f_linked, f_faultPlace, f_flowHeight, f_active, f_ticksLeft, f_outcome, f_latestResult, a_typeAbove, a_fieldSet, a_methodType, a_methodName, a_codeLength, a_bytes, a_isStart, a_heightAt, a_kindsAt, a_isWaiting, a_flowKinds, a_globals, a_objectType, a_fieldValue, a_isMarked, a_frameMethod, a_frameAt, a_frameHeight, a_slots⟩ := u
  obtain ⟨g_types, g_methods, g_place, g_result, g_linked, g_bad, g_high, g_refs, g_active, g_ticks, g_code, b_above, b_ownField, b_mType, b_mName, b_mLength, b_bytes, b_starts, b_seen, b_done, b_heights, b_local, b_sure, b_objType, b_objField, b_marked, b_global, b_fMethod, b_fPc, b_fHigh, b_fLocal, b_fEntry⟩ := v
  obtain ⟨tc, mc, h, rfl, rfl, rfl, rfl, rfl, hl, rfl, hfp, rfl, rfl, rfl, rfl, rfl, rfl, rfl, P, KB, H, hh, hL⟩ := I
  have h5 := P.1
  unfold wpX_link
  rcases hl with rfl | rfl
  · have h0 : h = 0 := by
      rcases Nat.eq_zero_or_pos h with z | z
      · exact z
      · exact absurd rfl (hh z)
    refine br_t rfl ?_
    rcases Nat.eq_zero_or_pos tc with rfl | hp
    · refine br_t rfl ?_
      unfold wpY_link
      exact br_t rfl (br_t rfl ⟨rfl, 0, mc, 0, rfl, rfl, rfl, rfl, rfl, Or.inl rfl, rfl, fun z => absurd rfl z, rfl, rfl, rfl, rfl, rfl, rfl, rfl, P, KB, rl_H0 H h0, fun z => absurd z (by omega), fun z => absurd rfl z⟩)
    · have n0 : ¬ nI tc = 0 := nI_ne0 (by omega) (by omega)
      refine br_f n0 ⟨mc + 1, ?_⟩
      have hY : ∀ post : Int32 → SY → Prop, wY_link_30 post (mc + 1) (nI 0) (nI tc) (nI mc) (-1) f_latestResult 0 g_bad g_high g_refs g_active g_ticks g_code a_typeAbove b_ownField a_methodType a_methodName a_codeLength a_bytes b_starts b_seen b_done b_heights b_local b_sure b_objType b_objField b_marked b_global b_fMethod b_fPc b_fHigh b_fLocal b_fEntry → wpY_link post (nI tc, nI mc, f_faultPlace, f_latestResult, 0, g_bad, g_high, g_refs, g_active, g_ticks, g_code, a_typeAbove, b_ownField, a_methodType, a_methodName, a_codeLength, a_bytes, b_starts, b_seen, b_done, b_heights, b_local, b_sure, b_objType, b_objField, b_marked, b_global, b_fMethod, b_fPc, b_fHigh, b_fLocal, b_fEntry) := by
        intro post J
        unfold wpY_link
        exact br_t rfl (br_f n0 ⟨mc + 1, J⟩)
      rcases lx 0 (-1) 0 f_ticksLeft f_outcome f_latestResult a_typeAbove a_fieldSet a_methodType a_methodName a_codeLength a_bytes a_globals a_objectType a_fieldValue a_isMarked a_frameMethod a_frameAt a_frameHeight a_slots P mc 0 (by omega) f_flowHeight a_isStart a_heightAt a_kindsAt a_isWaiting a_flowKinds KB (fun m' z => absurd z (by omega)) with ⟨m1, q, b1, b2, b3, b4, b5, fh2, xs2, H2, K2, W2, FK2, KB2, JX⟩ | ⟨m1, b1, b2, b3, b4, b5, fh2, xs2, H2, K2, W2, FK2, KB2, JX⟩ | ⟨b1, fh2, xs2, H2, K2, W2, FK2, KB2, hX2, JX⟩
      · refine JX _ (hY _ (ly (-1) f_latestResult 0 g_active g_ticks g_code a_typeAbove b_ownField a_methodType a_methodName a_codeLength a_bytes b_objType b_objField b_marked b_global b_fMethod b_fPc b_fHigh b_fLocal b_fEntry P (fun m2 q2 c1 c2 c3 bad hi re lo H' ys se dn su => ?_) (fun m2 c1 c2 c3 c4 => ?_) (fun c => ?_) mc 0 (by omega) (fun m' z => absurd z (by omega)) _ _ _ _ _ _ _ _ _ (fun m' z => absurd z (by omega))))
        · have em : m2 = m1 := by
            rcases Nat.lt_trichotomy m1 m2 with z | z | z
            · exact absurd (fq_n b5 (c2 m1 z).1) id
            · exact z.symm
            · exact absurd (fq_n c3 (b4 m2 (by omega) z).1) id
          subst em
          have eq := fq_u b5 c3
          subst eq
          exact ⟨rfl, tc, mc, 0, rfl, rfl, rfl, rfl, rfl, Or.inl rfl, rfl, fun z => absurd rfl z, rfl, rfl, rfl, rfl, rfl, rfl, rfl, P, KB2, rl_H0 H h0, fun z => absurd z (by omega), fun z => absurd rfl z⟩
        · exfalso
          rcases Nat.lt_trichotomy m1 m2 with z | z | z
          · exact fq_n b5 (c2 m1 z).1
          · subst z; exact fq_n b5 c3
          · exact (b4 m2 (by omega) z).2 c4
        · exact absurd (fq_n b5 (c m1 b1).1) id
      · refine JX _ (hY _ (ly (-1) f_latestResult 0 g_active g_ticks g_code a_typeAbove b_ownField a_methodType a_methodName a_codeLength a_bytes b_objType b_objField b_marked b_global b_fMethod b_fPc b_fHigh b_fLocal b_fEntry P (fun m2 q2 c1 c2 c3 => ?_) (fun m2 c1 c2 c3 c4 bad hi re lo H' ys se dn su => ?_) (fun c => ?_) mc 0 (by omega) (fun m' z => absurd z (by omega)) _ _ _ _ _ _ _ _ _ (fun m' z => absurd z (by omega))))
        · exfalso
          rcases Nat.lt_trichotomy m1 m2 with z | z | z
          · exact (c2 m1 z).2 b5
          · subst z; exact fq_n c3 b4
          · exact fq_n c3 (b3 m2 (by omega) z).1
        · have em : m2 = m1 := by
            rcases Nat.lt_trichotomy m1 m2 with z | z | z
            · exact absurd b5 (c2 m1 z).2
            · exact z.symm
            · exact absurd c4 (b3 m2 (by omega) z).2
          subst em
          exact ⟨rfl, tc, mc, 0, rfl, rfl, rfl, rfl, rfl, Or.inl rfl, rfl, fun z => absurd rfl z, rfl, rfl, rfl, rfl, rfl, rfl, rfl, P, KB2, rl_H0 H h0, fun z => absurd z (by omega), fun z => absurd rfl z⟩
        · exact absurd b5 (c m1 b1).2
      · refine JX _ (hY _ (ly (-1) f_latestResult 0 g_active g_ticks g_code a_typeAbove b_ownField a_methodType a_methodName a_codeLength a_bytes b_objType b_objField b_marked b_global b_fMethod b_fPc b_fHigh b_fLocal b_fEntry P (fun m2 q2 c1 c2 c3 => ?_) (fun m2 c1 c2 c3 c4 => ?_) (fun c bad hi re lo H' ys se dn su hYm => ?_) mc 0 (by omega) (fun m' z => absurd z (by omega)) _ _ _ _ _ _ _ _ _ (fun m' z => absurd z (by omega))))
        · exact absurd (fq_n c3 (b1 m2 (by omega) c1).1) id
        · exact absurd c4 (b1 m2 (by omega) c1).2
        · exact ⟨rfl, tc, mc, 0, rfl, rfl, rfl, rfl, rfl, Or.inr rfl, rfl, fun _ => rfl, rfl, rfl, rfl, rfl, rfl, rfl, rfl, P, KB2, rl_H0 H h0, fun z => absurd z (by omega), fun _ m' hm' => lk_mk (hX2 m' hm') (hYm m' hm')⟩
  · refine br_f (by decide) ?_
    have e := hfp (by decide)
    subst e
    unfold wpY_link
    exact br_f (by decide) ⟨rfl, tc, mc, h, rfl, rfl, rfl, rfl, rfl, Or.inr rfl, rfl, fun _ => rfl, rfl, rfl, rfl, rfl, rfl, rfl, rfl, P, KB, H, hh, hL⟩
end
section
/-! ===== values of a slot: by the kinds a that it may have ===== -/
def VRm (h a : Nat) (x y : Int32) : Prop := (a = 4 → ∃ r, r ≤ h ∧ x = nI r ∧ y = yR r) ∧ (a = 2 → x = y)
theorem VRm_up {h h' a : Nat} {x y : Int32} (hh : h ≤ h') (v : VRm h a x y) : VRm h' a x y := ⟨fun e => by obtain ⟨r, hr, q⟩ := v.1 e; exact ⟨r, by omega, q⟩, v.2⟩
theorem kd_s4 : ∀ a, a < 8 → 0 < a → (∀ c, c < 3 → kd_in c a → kd_in c 4) → a = 4 := by unfold kd_in; decide +kernel
theorem kd_s2 : ∀ a, a < 8 → 0 < a → (∀ c, c < 3 → kd_in c a → kd_in c 2) → a = 2 := by unfold kd_in; decide +kernel
theorem VRm_sub {h a a' : Nat} {x y : Int32} (h8 : a < 8) (h0 : 0 < a) (hs : kd_sub a a') (v : VRm h a x y) : VRm h a' x y := by
  refine ⟨fun e => v.1 ?_, fun e => v.2 ?_⟩
  · subst e; exact kd_s4 a h8 h0 hs
  · subst e; exact kd_s2 a h8 h0 hs
/-! ===== the frames ===== -/
def sp (pF : Nat → Nat) : Nat → Nat
  | 0 => 0
  | n + 1 => sp pF n + (33 - pF n)
theorem sp_eq {pF pF' : Nat → Nat} : ∀ n, (∀ i, i < n → pF' i = pF i) → sp pF' n = sp pF n
  | 0, _ => rfl
  | n + 1, h => by unfold sp; rw [sp_eq n (fun i hi => h i (by omega)), h n (by omega)]
/-- one frame: its method, place, height and slots -/
def F1 (mc h : Nat) (mL K fm fa fh sl ym yp yh yl ye : Nat → Int32) (i m p hc : Nat) : Prop := m < mc ∧ p < gm_n (mL m) ∧ hc ≤ 5 ∧ fm i = nI m ∧ ym i = nI m ∧ fa i = nI p ∧ yp i = nI p ∧ fh i = nI hc ∧ yh i = nI hc ∧ ∀ s, s < 4 + hc → VRm h (gm_n (K ((m * 32 + p) * 9 + s))) (sl (i * 9 + s)) (ysl yl ye i s)
/-- a frame that waits for the call above it -/
def FW (mN by' H : Nat → Int32) (m p hc m2 : Nat) : Prop := hc + 2 ≤ 5 ∧ H (m * 32 + p) = nI (hc + 2) ∧ gm_n (by' (m * 32 + p)) = 16 ∧ gm_n (mN m2) = gm_n (by' (m * 32 + p + 1))
def FR (mc h n : Nat) (mL mN by' H K fm fa fh sl ym yp yh yl ye : Nat → Int32) (mF pF hF : Nat → Nat) : Prop := (∀ i, i < n → F1 mc h mL K fm fa fh sl ym yp yh yl ye i (mF i) (pF i) (hF i)) ∧ (∀ i, i + 1 < n → FW mN by' H (mF i) (pF i) (hF i) (mF (i + 1))) ∧ (∀ i, i + 1 = n → H (mF i * 32 + pF i) = nI (hF i))
theorem F1_up {mc h h' i m p hc : Nat} {mL K fm fa fh sl ym yp yh yl ye fm' fa' fh' sl' ym' yp' yh' yl' ye' : Nat → Int32} (hh : h ≤ h') (f : F1 mc h mL K fm fa fh sl ym yp yh yl ye i m p hc) (e1 : fm' i = fm i) (e2 : ym' i = ym i) (e3 : fa' i = fa i) (e4 : yp' i = yp i) (e5 : fh' i = fh i) (e6 : yh' i = yh i) (e7 : ∀ s, s < 9 → sl' (i * 9 + s) = sl (i * 9 + s)) (e8 : ∀ s, s < 9 → ysl yl' ye' i s = ysl yl ye i s) : F1 mc h' mL K fm' fa' fh' sl' ym' yp' yh' yl' ye' i m p hc := by
  obtain ⟨a1, a2, a3, a4, a5, a6, a7, a8, a9, a10⟩ := f
  exact ⟨a1, a2, a3, by rw [e1]; exact a4, by rw [e2]; exact a5, by rw [e3]; exact a6, by rw [e4]; exact a7, by rw [e5]; exact a8, by rw [e6]; exact a9, fun s hs => by rw [e7 s (by omega), e8 s (by omega)]; exact VRm_up hh (a10 s hs)⟩
/-- slots of the reference -/
theorem ysl_e {yl ye : Nat → Int32} {f j i s : Nat} {v : Int32} (hj : j < 5) (hs : s < 9) (h : ¬ (i = f ∧ s = 4 + j)) : ysl yl (upd ye (f * 6 + j) v) i s = ysl yl ye i s := by
  unfold ysl
  by_cases h4 : s < 4
  · rw [if_pos h4, if_pos h4]
  · rw [if_neg h4, if_neg h4, pk_un (by omega)]
theorem ysl_eS {yl ye : Nat → Int32} {f j : Nat} {v : Int32} : ysl yl (upd ye (f * 6 + j) v) f (4 + j) = v := by
  unfold ysl
  rw [if_neg (by omega), Nat.add_sub_cancel_left, pk_us]
theorem ysl_l {yl ye : Nat → Int32} {f b i s : Nat} {v : Int32} (hb : b < 4) (h : ¬ (i = f ∧ s = b)) : ysl (upd yl (f * 4 + b) v) ye i s = ysl yl ye i s := by
  unfold ysl
  by_cases h4 : s < 4
  · rw [if_pos h4, if_pos h4, pk_un (by omega)]
  · rw [if_neg h4, if_neg h4]
theorem ysl_lS {yl ye : Nat → Int32} {f b : Nat} {v : Int32} (hb : b < 4) : ysl (upd yl (f * 4 + b) v) ye f b = v := by
  unfold ysl
  rw [if_pos hb, pk_us]
theorem ysl_4 {yl ye : Nat → Int32} {f j : Nat} : ysl yl ye f (4 + j) = ye (f * 6 + j) := by
  unfold ysl
  rw [if_neg (by omega), Nat.add_sub_cancel_left]
theorem ysl_0 {yl ye : Nat → Int32} {f b : Nat} (hb : b < 4) : ysl yl ye f b = yl (f * 4 + b) := by
  unfold ysl
  rw [if_pos hb]
/-! ===== the two runs' states ===== -/
/-- all but the frames -/
def RP (tc mc h : Nat) (f_typeCount f_methodCount f_linked f_faultPlace f_flowHeight f_active f_ticksLeft f_outcome f_latestResult : Int32) (a_typeAbove a_fieldSet a_methodType a_methodName a_codeLength a_bytes a_isStart a_heightAt a_kindsAt a_isWaiting a_flowKinds a_globals a_objectType a_fieldValue a_isMarked a_frameMethod a_frameAt a_frameHeight a_slots : Nat → Int32) (g_types g_methods g_place g_result g_linked g_bad g_high g_refs g_active g_ticks g_code : Int32) (b_above b_ownField b_mType b_mName b_mLength b_bytes b_starts : Nat → Int32) (b_seen b_done : Nat → Int64) (b_heights b_local b_sure b_objType b_objField b_marked b_global b_fMethod b_fPc b_fHigh b_fLocal b_fEntry : Nat → Int32) : Prop := f_typeCount = nI tc ∧ g_types = nI tc ∧ f_methodCount = nI mc ∧ g_methods = nI mc ∧ f_linked = 1 ∧ g_linked = 1 ∧ f_faultPlace = -1 ∧ g_place = -1 ∧ a_typeAbove = b_above ∧ a_methodType = b_mType ∧ a_methodName = b_mName ∧ a_codeLength = b_mLength ∧ a_bytes = b_bytes ∧
  rl_P tc mc a_typeAbove a_fieldSet b_ownField a_methodName a_codeLength a_bytes ∧ (∀ i, ∃ a, a < 8 ∧ a_kindsAt i = nI a) ∧ rl_L tc mc a_methodName a_codeLength a_bytes a_heightAt a_kindsAt b_sure ∧ rl_H h tc a_fieldSet a_globals a_objectType a_fieldValue b_global b_objType b_objField
def RS (μ : Nat) (u : SX) (v : SY) : Prop := match u, v with
  | (f_typeCount, f_methodCount, f_linked, f_faultPlace, f_flowHeight, f_active, f_ticksLeft, f_outcome, f_latestResult, a_typeAbove, a_fieldSet, a_methodType, a_methodName, a_codeLength, a_bytes, a_isStart, a_heightAt, a_kindsAt, a_isWaiting, a_flowKinds, a_globals, a_objectType, a_fieldValue, a_isMarked, a_frameMethod, a_frameAt, a_frameHeight, a_slots), (g_types, g_methods, g_place, g_result, g_linked, g_bad, g_high, g_refs, g_active, g_ticks, g_code, b_above, b_ownField, b_mType, b_mName, b_mLength, b_bytes, b_starts, b_seen, b_done, b_heights, b_local, b_sure, b_objType, b_objField, b_marked, b_global, b_fMethod, b_fPc, b_fHigh, b_fLocal, b_fEntry) => ∃ (tc mc h n t : Nat) (mF pF hF : Nat → Nat), RP tc mc h f_typeCount f_methodCount f_linked f_faultPlace f_flowHeight f_active f_ticksLeft f_outcome f_latestResult a_typeAbove a_fieldSet a_methodType a_methodName a_codeLength a_bytes a_isStart a_heightAt a_kindsAt a_isWaiting a_flowKinds a_globals a_objectType a_fieldValue a_isMarked a_frameMethod a_frameAt a_frameHeight a_slots g_types g_methods g_place g_result g_linked g_bad g_high g_refs g_active g_ticks g_code b_above b_ownField b_mType b_mName b_mLength b_bytes b_starts b_seen b_done b_heights b_local b_sure b_objType b_objField b_marked b_global b_fMethod b_fPc b_fHigh b_fLocal b_fEntry ∧ f_active = nI n ∧ g_active = nI n ∧ 1 ≤ n ∧ n ≤ 6 ∧ f_ticksLeft = nI t ∧ g_ticks = nI t ∧ t ≤ 100 ∧ f_outcome = -1 ∧ FR mc h n a_codeLength a_methodName a_bytes a_heightAt a_kindsAt a_frameMethod a_frameAt a_frameHeight a_slots b_fMethod b_fPc b_fHigh b_fLocal b_fEntry mF pF hF ∧ μ = 64 * t + sp pF n
def RE (r : Nat) (u : SX) (v : SY) : Prop := match u, v with
  | (f_typeCount, f_methodCount, f_linked, f_faultPlace, f_flowHeight, f_active, f_ticksLeft, f_outcome, f_latestResult, a_typeAbove, a_fieldSet, a_methodType, a_methodName, a_codeLength, a_bytes, a_isStart, a_heightAt, a_kindsAt, a_isWaiting, a_flowKinds, a_globals, a_objectType, a_fieldValue, a_isMarked, a_frameMethod, a_frameAt, a_frameHeight, a_slots), (g_types, g_methods, g_place, g_result, g_linked, g_bad, g_high, g_refs, g_active, g_ticks, g_code, b_above, b_ownField, b_mType, b_mName, b_mLength, b_bytes, b_starts, b_seen, b_done, b_heights, b_local, b_sure, b_objType, b_objField, b_marked, b_global, b_fMethod, b_fPc, b_fHigh, b_fLocal, b_fEntry) => ∃ tc mc h : Nat, RP tc mc h f_typeCount f_methodCount f_linked f_faultPlace f_flowHeight f_active f_ticksLeft f_outcome f_latestResult a_typeAbove a_fieldSet a_methodType a_methodName a_codeLength a_bytes a_isStart a_heightAt a_kindsAt a_isWaiting a_flowKinds a_globals a_objectType a_fieldValue a_isMarked a_frameMethod a_frameAt a_frameHeight a_slots g_types g_methods g_place g_result g_linked g_bad g_high g_refs g_active g_ticks g_code b_above b_ownField b_mType b_mName b_mLength b_bytes b_starts b_seen b_done b_heights b_local b_sure b_objType b_objField b_marked b_global b_fMethod b_fPc b_fHigh b_fLocal b_fEntry ∧ f_outcome = nI r ∧ ((r = 0 ∧ g_result = f_latestResult) ∨ (r = 1 ∧ g_code = f_latestResult) ∨ (r = 2 ∧ f_latestResult = 0))
def XG (u u' : SX) : Prop := ∀ post : SX → Prop, post u' → wpX_step post u
def YG (v : SY) (r : Int32) (v' : SY) : Prop := ∀ post : Int32 → SY → Prop, post r v' → wpY_execute post v
/-- one step of both -/
def SO (μ : Nat) (u : SX) (v : SY) : Prop := (∃ u' v' μ', μ' < μ ∧ RS μ' u' v' ∧ XG u u' ∧ YG v (-1) v') ∨ (∃ u' v' r, RE r u' v' ∧ XG u u' ∧ YG v (nI r) v')
/-- the top frame goes on -/
theorem FR_top {mc h h' n f p' hc' : Nat} {mL mN by' H K fm fa fh sl ym yp yh yl ye fa' fh' sl' yp' yh' yl' ye' : Nat → Int32} {mF pF hF : Nat → Nat} (hn : f + 1 = n) (R : FR mc h n mL mN by' H K fm fa fh sl ym yp yh yl ye mF pF hF) (hh : h ≤ h')
    (e3 : ∀ i, i < f → fa' i = fa i) (e4 : ∀ i, i < f → yp' i = yp i) (e5 : ∀ i, i < f → fh' i = fh i) (e6 : ∀ i, i < f → yh' i = yh i) (e7 : ∀ i s, i < f → s < 9 → sl' (i * 9 + s) = sl (i * 9 + s)) (e8 : ∀ i s, i < f → s < 9 → ysl yl' ye' i s = ysl yl ye i s)
    (t3 : fa' f = nI p') (t4 : yp' f = nI p') (t5 : fh' f = nI hc') (t6 : yh' f = nI hc') (h5 : hc' ≤ 5) (hp : p' < gm_n (mL (mF f))) (eH : H (mF f * 32 + p') = nI hc') (hs : ∀ s, s < 4 + hc' → VRm h' (gm_n (K ((mF f * 32 + p') * 9 + s))) (sl' (f * 9 + s)) (ysl yl' ye' f s)) :
    FR mc h' n mL mN by' H K fm fa' fh' sl' ym yp' yh' yl' ye' mF (fun i => if i = f then p' else pF i) (fun i => if i = f then hc' else hF i) := by
  obtain ⟨r1, r2, r3⟩ := R
  refine ⟨fun i hi => ?_, fun i hi => ?_, fun i hi => ?_⟩
  · by_cases e : i = f
    · subst e
      obtain ⟨a1, a2, a3, a4, a5, -⟩ := r1 i hi
      simp only [if_true]
      exact ⟨a1, hp, h5, a4, a5, t3, t4, t5, t6, hs⟩
    · simp only [e, if_false]
      exact F1_up hh (r1 i hi) rfl rfl (e3 i (by omega)) (e4 i (by omega)) (e5 i (by omega)) (e6 i (by omega)) (fun s hs => e7 i s (by omega) hs) (fun s hs => e8 i s (by omega) hs)
  · have e : i ≠ f := by omega
    simp only [e, if_false]
    exact r2 i hi
  · have e : i = f := by omega
    subst e
    simp only [if_true]
    exact eH
theorem sp_top {pF : Nat → Nat} {f p' : Nat} : sp (fun i => if i = f then p' else pF i) (f + 1) = sp pF f + (33 - p') := by
  show sp _ f + (33 - (if f = f then p' else pF f)) = _
  rw [sp_eq (pF := pF) f (fun i hi => by simp [show i ≠ f by omega]), if_pos rfl]
/-- kinds behind an instruction: pushing -/
theorem vr_push {o b nm hc f h h' g : Nat} {k : Nat → Nat} {sl yl ye : Nat → Int32} {ax ay : Int32} (hx : xk_ok o b nm k hc) (hg : is_gv o = true) (h2 : o ≠ 2) (h5 : hc ≤ 5) (hh : h ≤ h') (hs : ∀ s, s < 4 + hc → VRm h (k s) (sl (f * 9 + s)) (ysl yl ye f s)) (eg : (if o = 1 then k b else is_gk o b) = g) (hv : VRm h' g ax ay) :
    ∀ s, s < 4 + wy_h o hc → VRm h' (xk_t o b k hc s) (upd sl (f * 9 + 4 + (hc - is_tk o)) ax (f * 9 + s)) (ysl yl (upd ye (f * 6 + (hc - is_tk o)) ay) f s) := by
  intro s hs2
  have hlt := hx.2.2.2.2 hg
  unfold wy_h at hs2
  rw [hg] at hs2
  simp only [if_true] at hs2
  unfold xk_t
  by_cases e : s = 4 + (hc - is_tk o)
  · subst e
    rw [if_neg (by omega), if_neg (by omega), eg, show f * 9 + (4 + (hc - is_tk o)) = f * 9 + 4 + (hc - is_tk o) by omega, pk_us, ysl_eS]
    exact hv
  · rw [pk_un (by omega), ysl_e (by omega) (by omega) (fun w => e w.2)]
    by_cases h4 : s < 4
    · rw [if_pos h4, if_neg (fun w => h2 w.1)]
      exact VRm_up hh (hs s (by omega))
    · rw [if_neg h4, if_pos (by omega)]
      exact VRm_up hh (hs s (by omega))
/-- kinds behind an instruction: nothing pushed, nothing stored -/
theorem vr_none {o b nm hc f h h' : Nat} {k : Nat → Nat} {sl yl ye : Nat → Int32} (hx : xk_ok o b nm k hc) (hg : is_gv o = false) (h2 : o ≠ 2) (hh : h ≤ h') (hs : ∀ s, s < 4 + hc → VRm h (k s) (sl (f * 9 + s)) (ysl yl ye f s)) : ∀ s, s < 4 + wy_h o hc → VRm h' (xk_t o b k hc s) (sl (f * 9 + s)) (ysl yl ye f s) := by
  intro s hs2
  unfold wy_h at hs2
  rw [hg] at hs2
  simp at hs2
  unfold xk_t
  by_cases h4 : s < 4
  · rw [if_pos h4, if_neg (fun w => h2 w.1)]
    exact VRm_up hh (hs s (by omega))
  · rw [if_neg h4, if_pos (by omega)]
    exact VRm_up hh (hs s (by omega))
/-- kinds behind a STORE -/
theorem vr_store {b nm hc f h : Nat} {k : Nat → Nat} {sl yl ye : Nat → Int32} (hx : xk_ok 2 b nm k hc) (hb : b < 4) (h5 : hc ≤ 5) (hs : ∀ s, s < 4 + hc → VRm h (k s) (sl (f * 9 + s)) (ysl yl ye f s)) : ∀ s, s < 4 + wy_h 2 hc → VRm h (xk_t 2 b k hc s) (upd sl (f * 9 + b) (sl (f * 9 + 4 + (hc - 1))) (f * 9 + s)) (ysl (upd yl (f * 4 + b) (ye (f * 6 + (hc - 1)))) ye f s) := by
  intro s hs2
  have h1 : 1 ≤ hc := hx.1
  have ew : wy_h 2 hc = hc - 1 := rfl
  rw [ew] at hs2
  unfold xk_t
  by_cases e : s = b
  · subst e
    rw [if_pos hb, if_pos ⟨rfl, rfl⟩, pk_us, ysl_lS hb]
    have := hs (3 + hc) (by omega)
    rw [show 3 + hc = 4 + (hc - 1) by omega, ysl_4] at this
    rw [show 3 + hc = 4 + (hc - 1) by omega, show f * 9 + 4 + (hc - 1) = f * 9 + (4 + (hc - 1)) by omega]
    exact this
  · rw [pk_un (by omega), ysl_l hb (fun w => e w.2)]
    by_cases h4 : s < 4
    · rw [if_pos h4, if_neg (fun w => e w.2)]; exact hs s (by omega)
    · have et : is_tk 2 = 1 := rfl
      rw [if_neg h4, if_pos (by rw [et]; omega)]; exact hs s (by omega)
end
section
/-- the context of a step: all but the two states' shape -/
def CT (tc mc h f t m p hc o b nm : Nat) (a_typeAbove a_fieldSet b_ownField a_methodName a_codeLength a_bytes a_heightAt a_kindsAt b_sure a_globals a_objectType a_fieldValue b_global b_objType b_objField a_frameMethod a_frameAt a_frameHeight a_slots b_fMethod b_fPc b_fHigh b_fLocal b_fEntry : Nat → Int32) (mF pF hF : Nat → Nat) : Prop :=
  rl_P tc mc a_typeAbove a_fieldSet b_ownField a_methodName a_codeLength a_bytes ∧ (∀ i, ∃ a, a < 8 ∧ a_kindsAt i = nI a) ∧ rl_L tc mc a_methodName a_codeLength a_bytes a_heightAt a_kindsAt b_sure ∧ rl_H h tc a_fieldSet a_globals a_objectType a_fieldValue b_global b_objType b_objField ∧
  f + 1 ≤ 6 ∧ t ≤ 100 ∧ FR mc h (f + 1) a_codeLength a_methodName a_bytes a_heightAt a_kindsAt a_frameMethod a_frameAt a_frameHeight a_slots b_fMethod b_fPc b_fHigh b_fLocal b_fEntry mF pF hF ∧ mF f = m ∧ pF f = p ∧ hF f = hc ∧ gm_n (a_bytes (m * 32 + p)) = o ∧ gm_n (a_bytes (m * 32 + p + 1)) = b ∧ gm_n (a_methodName m) = nm
theorem ct_F {tc mc h f t m p hc o b nm : Nat} {a_typeAbove a_fieldSet b_ownField a_methodName a_codeLength a_bytes a_heightAt a_kindsAt b_sure a_globals a_objectType a_fieldValue b_global b_objType b_objField a_frameMethod a_frameAt a_frameHeight a_slots b_fMethod b_fPc b_fHigh b_fLocal b_fEntry : Nat → Int32} {mF pF hF : Nat → Nat} (C : CT tc mc h f t m p hc o b nm a_typeAbove a_fieldSet b_ownField a_methodName a_codeLength a_bytes a_heightAt a_kindsAt b_sure a_globals a_objectType a_fieldValue b_global b_objType b_objField a_frameMethod a_frameAt a_frameHeight a_slots b_fMethod b_fPc b_fHigh b_fLocal b_fEntry mF pF hF) :
    m < mc ∧ mc ≤ 8 ∧ tc ≤ 5 ∧ p < 32 ∧ hc ≤ 5 ∧ o < 21 ∧ b < 256 ∧ nm < 16 ∧ a_methodName m = nI nm ∧ a_bytes (m * 32 + p) = nI o ∧ a_bytes (m * 32 + p + 1) = nI b ∧ (is_sg o = false → p + 2 ≤ 32 ∧ is_opd tc o b) ∧ p + is_sz o ≤ 32 ∧
    a_frameMethod f = nI m ∧ b_fMethod f = nI m ∧ a_frameAt f = nI p ∧ b_fPc f = nI p ∧ a_frameHeight f = nI hc ∧ b_fHigh f = nI hc ∧ a_heightAt (m * 32 + p) = nI hc ∧ xk_ok o b nm (kk m a_kindsAt p) hc ∧ (∀ s, s < 4 + hc → 0 < kk m a_kindsAt p s ∧ kk m a_kindsAt p s < 8) ∧ (∀ s, s < 4 + hc → VRm h (kk m a_kindsAt p s) (a_slots (f * 9 + s)) (ysl b_fLocal b_fEntry f s)) ∧
    (∀ p', is_su o b p p' → p' < gm_n (a_codeLength m) ∧ a_heightAt (m * 32 + p') = nI (wy_h o hc) ∧ ∀ s, s < 4 + wy_h o hc → kd_sub (xk_t o b (kk m a_kindsAt p) hc s) (kk m a_kindsAt p' s)) := by
  obtain ⟨P, KB, LK, H, f6, t100, R, rfl, rfl, rfl, rfl, rfl, rfl⟩ := C
  obtain ⟨a1, a2, a3, a4, a5, a6, a7, a8, a9, a10⟩ := R.1 f (by omega)
  have eH := R.2.2 f rfl
  obtain ⟨S, F, k0, k1, k2⟩ := LK _ a1
  obtain ⟨b1, b2, b3, b4, b5⟩ := k2 _ a2 _ a3 eH
  obtain ⟨g1, g2, g3, g4, g5⟩ := F.2.2.2 _ a2 b1
  have hL := F.2.1
  have pN := P.2.2.2.1 (mF f)
  have pB := P.2.2.2.2.2.1
  have hsz : is_sg (gm_n (a_bytes (mF f * 32 + pF f))) = false → is_sz (gm_n (a_bytes (mF f * 32 + pF f))) = 2 := fun z => by unfold is_sz; rw [z]; rfl
  refine ⟨a1, P.2.1, P.1, by omega, a3, g1, (pB _).1, pN.1, pN.2, (pB _).2, (pB _).2, fun z => ⟨?_, g4 z⟩, ?_, a4, a5, a6, a7, a8, a9, eH, b3, fun s hs => ?_, a10, b4⟩
  · have := hsz z
    have g2' : pF f + is_sz (gm_n (a_bytes (mF f * 32 + pF f))) ≤ gm_n (a_codeLength (mF f)) := g2
    omega
  · exact Nat.le_trans g2 hL
  · obtain ⟨a, z1, z2, z3⟩ := b2 s hs
    rw [kk_nI z3 z2]
    exact ⟨z1, z2⟩
/-- on in the same frame -/
theorem so_top (f_flowHeight f_latestResult : Int32) (a_typeAbove a_fieldSet a_methodType a_methodName a_codeLength a_bytes a_isStart a_heightAt a_kindsAt a_isWaiting a_flowKinds a_globals a_objectType a_fieldValue a_isMarked a_frameMethod a_frameAt a_frameHeight a_slots : Nat → Int32) (g_result g_bad g_high g_refs g_code : Int32) (b_ownField b_starts : Nat → Int32) (b_seen b_done : Nat → Int64) (b_heights b_local b_sure b_objType b_objField b_marked b_global b_fMethod b_fPc b_fHigh b_fLocal b_fEntry : Nat → Int32) {tc mc h h' f t t' m p p' hc o b nm : Nat} {mF pF hF : Nat → Nat} {gl' ot' fv' xm' fa' fh' sl' yg' yt' yf' ym' yp' yh' yl' ye' : Nat → Int32} (C : CT tc mc h f t m p hc o b nm a_typeAbove a_fieldSet b_ownField a_methodName a_codeLength a_bytes a_heightAt a_kindsAt b_sure a_globals a_objectType a_fieldValue b_global b_objType b_objField a_frameMethod a_frameAt a_frameHeight a_slots b_fMethod b_fPc b_fHigh b_fLocal b_fEntry mF pF hF) (hsu : is_su o b p p') (hh : h ≤ h') (H' : rl_H h' tc a_fieldSet gl' ot' fv' yg' yt' yf') (ht : (t' = t ∧ p < p') ∨ t = t' + 1)
    (e3 : ∀ i, i < f → fa' i = a_frameAt i) (e4 : ∀ i, i < f → yp' i = b_fPc i) (e5 : ∀ i, i < f → fh' i = a_frameHeight i) (e6 : ∀ i, i < f → yh' i = b_fHigh i) (e7 : ∀ i s, i < f → s < 9 → sl' (i * 9 + s) = a_slots (i * 9 + s)) (e8 : ∀ i s, i < f → s < 9 → ysl yl' ye' i s = ysl b_fLocal b_fEntry i s)
    (t3 : fa' f = nI p') (t4 : yp' f = nI p') (t5 : fh' f = nI (wy_h o hc)) (t6 : yh' f = nI (wy_h o hc)) (hs : ∀ s, s < 4 + wy_h o hc → VRm h' (xk_t o b (kk m a_kindsAt p) hc s) (sl' (f * 9 + s)) (ysl yl' ye' f s))
    (gX : XG (nI tc, nI mc, 1, -1, f_flowHeight, nI (f + 1), nI t, -1, f_latestResult, a_typeAbove, a_fieldSet, a_methodType, a_methodName, a_codeLength, a_bytes, a_isStart, a_heightAt, a_kindsAt, a_isWaiting, a_flowKinds, a_globals, a_objectType, a_fieldValue, a_isMarked, a_frameMethod, a_frameAt, a_frameHeight, a_slots) (nI tc, nI mc, 1, -1, f_flowHeight, nI (f + 1), nI t', -1, f_latestResult, a_typeAbove, a_fieldSet, a_methodType, a_methodName, a_codeLength, a_bytes, a_isStart, a_heightAt, a_kindsAt, a_isWaiting, a_flowKinds, gl', ot', fv', xm', a_frameMethod, fa', fh', sl')) (gY : YG (nI tc, nI mc, -1, g_result, 1, g_bad, g_high, g_refs, nI (f + 1), nI t, g_code, a_typeAbove, b_ownField, a_methodType, a_methodName, a_codeLength, a_bytes, b_starts, b_seen, b_done, b_heights, b_local, b_sure, b_objType, b_objField, b_marked, b_global, b_fMethod, b_fPc, b_fHigh, b_fLocal, b_fEntry) (-1) (nI tc, nI mc, -1, g_result, 1, g_bad, g_high, g_refs, nI (f + 1), nI t', g_code, a_typeAbove, b_ownField, a_methodType, a_methodName, a_codeLength, a_bytes, b_starts, b_seen, b_done, b_heights, b_local, b_sure, yt', yf', ym', yg', b_fMethod, yp', yh', yl', ye')) :
    SO (64 * t + sp pF (f + 1)) (nI tc, nI mc, 1, -1, f_flowHeight, nI (f + 1), nI t, -1, f_latestResult, a_typeAbove, a_fieldSet, a_methodType, a_methodName, a_codeLength, a_bytes, a_isStart, a_heightAt, a_kindsAt, a_isWaiting, a_flowKinds, a_globals, a_objectType, a_fieldValue, a_isMarked, a_frameMethod, a_frameAt, a_frameHeight, a_slots) (nI tc, nI mc, -1, g_result, 1, g_bad, g_high, g_refs, nI (f + 1), nI t, g_code, a_typeAbove, b_ownField, a_methodType, a_methodName, a_codeLength, a_bytes, b_starts, b_seen, b_done, b_heights, b_local, b_sure, b_objType, b_objField, b_marked, b_global, b_fMethod, b_fPc, b_fHigh, b_fLocal, b_fEntry) := by
  obtain ⟨q1, q2, q3, q4, q5, q6, q7, q8, q9, q10, q11, q12, q13, q14, q15, q16, q17, q18, q19, q20, q21, q22, q23, q24⟩ := ct_F C
  obtain ⟨P, KB, LK, H, f6, t100, R, rfl, rfl, rfl, -, -, -⟩ := C
  obtain ⟨s1, s2, s3⟩ := q24 p' hsu
  have hL : gm_n (a_codeLength (mF f)) ≤ 32 := (P.2.2.2.2.1 (mF f)).1
  have hw5 := xk_h5 q5 q21
  refine Or.inl ⟨_, _, 64 * t' + sp (fun i => if i = f then p' else pF i) (f + 1), ?_, ⟨tc, mc, h', f + 1, t', mF, (fun i => if i = f then p' else pF i), (fun i => if i = f then wy_h o (hF f) else hF i), ⟨rfl, rfl, rfl, rfl, rfl, rfl, rfl, rfl, rfl, rfl, rfl, rfl, rfl, P, KB, LK, H'⟩, rfl, rfl, by omega, f6, rfl, rfl, by omega, rfl, ?_, rfl⟩, gX, gY⟩
  · rw [sp_top]
    have : sp pF (f + 1) = sp pF f + (33 - pF f) := rfl
    omega
  · refine FR_top rfl R hh e3 e4 e5 e6 e7 e8 t3 t4 t5 t6 hw5 s1 s2 (fun s hs2 => ?_)
    obtain ⟨z1, z2⟩ := xk_pos q6 (fun z => (q12 (by rw [z]; rfl)).2.1 (Or.inl z)) q21 q22 hs2
    exact VRm_sub z2 z1 (s3 s hs2) (hs s hs2)
/-- the end of a run -/
theorem so_end (f_flowHeight f_latestResult : Int32) (a_typeAbove a_fieldSet a_methodType a_methodName a_codeLength a_bytes a_isStart a_heightAt a_kindsAt a_isWaiting a_flowKinds a_globals a_objectType a_fieldValue a_isMarked a_frameMethod a_frameAt a_frameHeight a_slots : Nat → Int32) (g_result g_bad g_high g_refs g_code : Int32) (b_ownField b_starts : Nat → Int32) (b_seen b_done : Nat → Int64) (b_heights b_local b_sure b_objType b_objField b_marked b_global b_fMethod b_fPc b_fHigh b_fLocal b_fEntry : Nat → Int32) {tc mc h h' f t m p hc o b nm r : Nat} {mF pF hF : Nat → Nat} {u' : SX} {v' : SY} (C : CT tc mc h f t m p hc o b nm a_typeAbove a_fieldSet b_ownField a_methodName a_codeLength a_bytes a_heightAt a_kindsAt b_sure a_globals a_objectType a_fieldValue b_global b_objType b_objField a_frameMethod a_frameAt a_frameHeight a_slots b_fMethod b_fPc b_fHigh b_fLocal b_fEntry mF pF hF) (hr : RE r u' v') (gX : XG (nI tc, nI mc, 1, -1, f_flowHeight, nI (f + 1), nI t, -1, f_latestResult, a_typeAbove, a_fieldSet, a_methodType, a_methodName, a_codeLength, a_bytes, a_isStart, a_heightAt, a_kindsAt, a_isWaiting, a_flowKinds, a_globals, a_objectType, a_fieldValue, a_isMarked, a_frameMethod, a_frameAt, a_frameHeight, a_slots) u') (gY : YG (nI tc, nI mc, -1, g_result, 1, g_bad, g_high, g_refs, nI (f + 1), nI t, g_code, a_typeAbove, b_ownField, a_methodType, a_methodName, a_codeLength, a_bytes, b_starts, b_seen, b_done, b_heights, b_local, b_sure, b_objType, b_objField, b_marked, b_global, b_fMethod, b_fPc, b_fHigh, b_fLocal, b_fEntry) (nI r) v') : SO (64 * t + sp pF (f + 1)) (nI tc, nI mc, 1, -1, f_flowHeight, nI (f + 1), nI t, -1, f_latestResult, a_typeAbove, a_fieldSet, a_methodType, a_methodName, a_codeLength, a_bytes, a_isStart, a_heightAt, a_kindsAt, a_isWaiting, a_flowKinds, a_globals, a_objectType, a_fieldValue, a_isMarked, a_frameMethod, a_frameAt, a_frameHeight, a_slots) (nI tc, nI mc, -1, g_result, 1, g_bad, g_high, g_refs, nI (f + 1), nI t, g_code, a_typeAbove, b_ownField, a_methodType, a_methodName, a_codeLength, a_bytes, b_starts, b_seen, b_done, b_heights, b_local, b_sure, b_objType, b_objField, b_marked, b_global, b_fMethod, b_fPc, b_fHigh, b_fLocal, b_fEntry) := Or.inr ⟨u', v', r, hr, gX, gY⟩
/-! ===== what opens a step ===== -/
theorem x_pre (f_flowHeight f_latestResult : Int32) (a_typeAbove a_fieldSet a_methodType a_methodName a_codeLength a_bytes a_isStart a_heightAt a_kindsAt a_isWaiting a_flowKinds a_globals a_objectType a_fieldValue a_isMarked a_frameMethod a_frameAt a_frameHeight a_slots : Nat → Int32) (g_result g_bad g_high g_refs g_code : Int32) (b_ownField b_starts : Nat → Int32) (b_seen b_done : Nat → Int64) (b_heights b_local b_sure b_objType b_objField b_marked b_global b_fMethod b_fPc b_fHigh b_fLocal b_fEntry : Nat → Int32) {post : SX → Prop} {tc mc h f t m p hc o b nm : Nat} {mF pF hF : Nat → Nat} (C : CT tc mc h f t m p hc o b nm a_typeAbove a_fieldSet b_ownField a_methodName a_codeLength a_bytes a_heightAt a_kindsAt b_sure a_globals a_objectType a_fieldValue b_global b_objType b_objField a_frameMethod a_frameAt a_frameHeight a_slots b_fMethod b_fPc b_fHigh b_fLocal b_fEntry mF pF hF) (J : wX_step_55 post (nI f) (nI o) (nI (is_sz o)) (nI (if is_sg o = true then 0 else b)) (nI tc) (nI mc) 1 (-1) f_flowHeight (nI (f + 1)) (nI t) (-1) f_latestResult a_typeAbove a_fieldSet a_methodType a_methodName a_codeLength a_bytes a_isStart a_heightAt a_kindsAt a_isWaiting a_flowKinds a_globals a_objectType a_fieldValue a_isMarked a_frameMethod a_frameAt a_frameHeight a_slots) : wpX_step post (nI tc, nI mc, 1, -1, f_flowHeight, nI (f + 1), nI t, -1, f_latestResult, a_typeAbove, a_fieldSet, a_methodType, a_methodName, a_codeLength, a_bytes, a_isStart, a_heightAt, a_kindsAt, a_isWaiting, a_flowKinds, a_globals, a_objectType, a_fieldValue, a_isMarked, a_frameMethod, a_frameAt, a_frameHeight, a_slots) := by
  obtain ⟨q1, q2, q3, q4, q5, q6, q7, q8, q9, q10, q11, q12, q13, q14, q15, q16, q17, q18, q19, q20, q21, q22, q23, q24⟩ := ct_F C
  have f6 := C.2.2.2.2.1
  unfold wpX_step
  simp (disch := omega) only [nI_clamp, gm_clL, gm_in, gm_inL, gm_ml, gm_al, gm_la, gm_sl, nI_add, pk_mul, gm_eqL, gm_leL, gm_ltL, gm_Lle, gm_Llt, gm_eq, gm_le, gm_lt, gm_m1, forall_eq, true_and, Nat.not_lt_zero, Nat.add_sub_cancel, gm_z2, gm_z3, gm_z9, gm_z16, gm_z18, gm_z32, gm_z36, gm_z64, gm_z1152, not_true_eq_false, not_false_eq_true, false_implies, true_implies, and_true, implies_true, q14, q16, q10]
  refine ev_sizeOf (by omega) ?_
  cases z : is_sg o
  · have e2 : is_sz o = 2 := by unfold is_sz; rw [z]; rfl
    rw [z, e2] at J
    rw [e2]
    have := q12 z
    refine br_t rfl ⟨vp_in_nI (by omega) (by omega), ?_⟩
    rw [q11]
    exact J
  · have e2 : is_sz o = 1 := by unfold is_sz; rw [z]; rfl
    rw [z, e2] at J
    rw [e2]
    exact br_f (by decide) J
theorem y_pre (f_flowHeight f_latestResult : Int32) (a_typeAbove a_fieldSet a_methodType a_methodName a_codeLength a_bytes a_isStart a_heightAt a_kindsAt a_isWaiting a_flowKinds a_globals a_objectType a_fieldValue a_isMarked a_frameMethod a_frameAt a_frameHeight a_slots : Nat → Int32) (g_result g_bad g_high g_refs g_code : Int32) (b_ownField b_starts : Nat → Int32) (b_seen b_done : Nat → Int64) (b_heights b_local b_sure b_objType b_objField b_marked b_global b_fMethod b_fPc b_fHigh b_fLocal b_fEntry : Nat → Int32) {post : Int32 → SY → Prop} {tc mc h f t m p hc o b nm : Nat} {mF pF hF : Nat → Nat} (C : CT tc mc h f t m p hc o b nm a_typeAbove a_fieldSet b_ownField a_methodName a_codeLength a_bytes a_heightAt a_kindsAt b_sure a_globals a_objectType a_fieldValue b_global b_objType b_objField a_frameMethod a_frameAt a_frameHeight a_slots b_fMethod b_fPc b_fHigh b_fLocal b_fEntry mF pF hF) (J : ∀ b1 : Nat, (is_sg o = false → b1 = b) → b1 < 256 → wY_execute_138 post (nI f) (nI p) (nI o) (nI b1) (if 1 ≤ hc then b_fEntry (f * 6 + (hc - 1)) else 0) (if 2 ≤ hc then b_fEntry (f * 6 + (hc - 2)) else 0) (nI (p + is_sz o)) (nI tc) (nI mc) (-1) g_result 1 g_bad g_high g_refs (nI (f + 1)) (nI t) g_code a_typeAbove b_ownField a_methodType a_methodName a_codeLength a_bytes b_starts b_seen b_done b_heights b_local b_sure b_objType b_objField b_marked b_global b_fMethod b_fPc b_fHigh b_fLocal b_fEntry) : wpY_execute post (nI tc, nI mc, -1, g_result, 1, g_bad, g_high, g_refs, nI (f + 1), nI t, g_code, a_typeAbove, b_ownField, a_methodType, a_methodName, a_codeLength, a_bytes, b_starts, b_seen, b_done, b_heights, b_local, b_sure, b_objType, b_objField, b_marked, b_global, b_fMethod, b_fPc, b_fHigh, b_fLocal, b_fEntry) := by
  obtain ⟨q1, q2, q3, q4, q5, q6, q7, q8, q9, q10, q11, q12, q13, q14, q15, q16, q17, q18, q19, q20, q21, q22, q23, q24⟩ := ct_F C
  have f6 := C.2.2.2.2.1
  have m57 : ∀ b1 : Nat, (is_sg o = false → b1 = b) → b1 < 256 → wY_execute_57 post (nI f) (nI p) (nI o) (nI b1) (nI tc) (nI mc) (-1) g_result 1 g_bad g_high g_refs (nI (f + 1)) (nI t) g_code a_typeAbove b_ownField a_methodType a_methodName a_codeLength a_bytes b_starts b_seen b_done b_heights b_local b_sure b_objType b_objField b_marked b_global b_fMethod b_fPc b_fHigh b_fLocal b_fEntry := by
    intro b1 h1 h2
    have J' := J b1 h1 h2
    have m119 : ∀ v u : Int32, wY_execute_138 post (nI f) (nI p) (nI o) (nI b1) v u (nI (p + is_sz o)) (nI tc) (nI mc) (-1) g_result 1 g_bad g_high g_refs (nI (f + 1)) (nI t) g_code a_typeAbove b_ownField a_methodType a_methodName a_codeLength a_bytes b_starts b_seen b_done b_heights b_local b_sure b_objType b_objField b_marked b_global b_fMethod b_fPc b_fHigh b_fLocal b_fEntry → wY_execute_119 post (nI f) (nI p) (nI o) (nI b1) v u (nI tc) (nI mc) (-1) g_result 1 g_bad g_high g_refs (nI (f + 1)) (nI t) g_code a_typeAbove b_ownField a_methodType a_methodName a_codeLength a_bytes b_starts b_seen b_done b_heights b_local b_sure b_objType b_objField b_marked b_global b_fMethod b_fPc b_fHigh b_fLocal b_fEntry := by
      intro v u K
      unfold wY_execute_119
      refine ev_single (by omega) ?_
      cases z : is_sg o
      · have e2 : is_sz o = 2 := by unfold is_sz; rw [z]; rfl
        rw [e2] at K
        refine br_t rfl ?_
        rw [show nI p + 2 = nI (p + 2) from nI_add p 2]
        exact K
      · have e2 : is_sz o = 1 := by unfold is_sz; rw [z]; rfl
        rw [e2] at K
        refine br_f (by decide) ?_
        rw [nI_1 p]
        exact K
    unfold wY_execute_57 wY_execute_94
    by_cases c1 : 1 ≤ hc
    · rw [if_pos c1] at J'
      have e1 : f * 6 + hc - 1 = f * 6 + (hc - 1) := by omega
      by_cases c2 : 2 ≤ hc
      · rw [if_pos c2] at J'
        have e2 : f * 6 + (hc - 1) - 1 = f * 6 + (hc - 2) := by omega
        simp (disch := omega) only [nI_clamp, gm_clL, gm_in, gm_inL, gm_ml, gm_al, gm_la, gm_sl, nI_add, pk_mul, gm_eqL, gm_leL, gm_ltL, gm_Lle, gm_Llt, gm_eq, gm_le, gm_lt, gm_m1, forall_eq, true_and, Nat.not_lt_zero, Nat.add_sub_cancel, gm_z2, gm_z3, gm_z9, gm_z16, gm_z18, gm_z32, gm_z36, gm_z64, gm_z1152, not_true_eq_false, not_false_eq_true, false_implies, true_implies, and_true, implies_true, q19, e1, e2]
        exact ⟨fun z => absurd z (by omega), fun _ => ⟨fun z => absurd z (by omega), fun _ => m119 _ _ J'⟩⟩
      · rw [if_neg c2] at J'
        simp (disch := omega) only [nI_clamp, gm_clL, gm_in, gm_inL, gm_ml, gm_al, gm_la, gm_sl, nI_add, pk_mul, gm_eqL, gm_leL, gm_ltL, gm_Lle, gm_Llt, gm_eq, gm_le, gm_lt, gm_m1, forall_eq, true_and, Nat.not_lt_zero, Nat.add_sub_cancel, gm_z2, gm_z3, gm_z9, gm_z16, gm_z18, gm_z32, gm_z36, gm_z64, gm_z1152, not_true_eq_false, not_false_eq_true, false_implies, true_implies, and_true, implies_true, q19, e1]
        refine ⟨fun z => absurd z (by omega), fun _ => ⟨fun _ => m119 _ _ J', fun z => absurd (by omega) z⟩⟩
    · have e0 : hc = 0 := by omega
      subst e0
      rw [if_neg c1, if_neg (by omega)] at J'
      simp (disch := omega) only [nI_clamp, gm_clL, gm_in, gm_inL, gm_ml, gm_al, gm_la, gm_sl, nI_add, pk_mul, gm_eqL, gm_leL, gm_ltL, gm_Lle, gm_Llt, gm_eq, gm_le, gm_lt, gm_m1, forall_eq, true_and, Nat.not_lt_zero, Nat.add_sub_cancel, gm_z2, gm_z3, gm_z9, gm_z16, gm_z18, gm_z32, gm_z36, gm_z64, gm_z1152, not_true_eq_false, not_false_eq_true, false_implies, true_implies, and_true, implies_true, q19]
      exact ⟨fun _ => ⟨fun _ => m119 _ _ J', fun z => absurd (by omega) z⟩, fun z => absurd (by omega) z⟩
  unfold wpY_execute
  simp (disch := omega) only [nI_clamp, gm_clL, gm_in, gm_inL, gm_ml, gm_al, gm_la, gm_sl, nI_add, pk_mul, gm_eqL, gm_leL, gm_ltL, gm_Lle, gm_Llt, gm_eq, gm_le, gm_lt, gm_m1, forall_eq, true_and, Nat.not_lt_zero, Nat.add_sub_cancel, gm_z2, gm_z3, gm_z9, gm_z16, gm_z18, gm_z32, gm_z36, gm_z64, gm_z1152, not_true_eq_false, not_false_eq_true, false_implies, true_implies, and_true, implies_true, q15, q17, q10]
  refine ⟨fun z => m57 0 (fun z2 => ?_) (by omega), fun z => ?_⟩
  · have := q12 z2
    omega
  · rw [q11]
    exact ⟨vp_in_nI (by omega) (by omega), m57 b (fun _ => rfl) q7⟩
end
section
/-! ===== the class's small methods in a run ===== -/
theorem ex_push (f_typeCount f_methodCount f_linked f_faultPlace f_flowHeight f_active f_ticksLeft f_outcome f_latestResult : Int32) (a_typeAbove a_fieldSet a_methodType a_methodName a_codeLength a_bytes a_isStart a_heightAt a_kindsAt a_isWaiting a_flowKinds a_globals a_objectType a_fieldValue a_isMarked a_frameMethod a_frameAt a_frameHeight a_slots : Nat → Int32) {post : SX → Prop} {f h : Nat} {v : Int32} (hf : f < 6) (hh : a_frameHeight f = nI h) (h5 : h < 5) (J : post (f_typeCount, f_methodCount, f_linked, f_faultPlace, f_flowHeight, f_active, f_ticksLeft, f_outcome, f_latestResult, a_typeAbove, a_fieldSet, a_methodType, a_methodName, a_codeLength, a_bytes, a_isStart, a_heightAt, a_kindsAt, a_isWaiting, a_flowKinds, a_globals, a_objectType, a_fieldValue, a_isMarked, a_frameMethod, a_frameAt, upd a_frameHeight f (nI (h + 1)), upd a_slots (f * 9 + 4 + h) v)) : wpX_push post (f_typeCount, f_methodCount, f_linked, f_faultPlace, f_flowHeight, f_active, f_ticksLeft, f_outcome, f_latestResult, a_typeAbove, a_fieldSet, a_methodType, a_methodName, a_codeLength, a_bytes, a_isStart, a_heightAt, a_kindsAt, a_isWaiting, a_flowKinds, a_globals, a_objectType, a_fieldValue, a_isMarked, a_frameMethod, a_frameAt, a_frameHeight, a_slots) (nI f) v := by
  unfold wpX_push
  simp (disch := omega) only [nI_clamp, gm_in, gm_ml, gm_al, gm_la, nI_add, hh, forall_eq, true_and]
  exact J
theorem ex_pop (f_typeCount f_methodCount f_linked f_faultPlace f_flowHeight f_active f_ticksLeft f_outcome f_latestResult : Int32) (a_typeAbove a_fieldSet a_methodType a_methodName a_codeLength a_bytes a_isStart a_heightAt a_kindsAt a_isWaiting a_flowKinds a_globals a_objectType a_fieldValue a_isMarked a_frameMethod a_frameAt a_frameHeight a_slots : Nat → Int32) {post : Int32 → SX → Prop} {f h : Nat} (hf : f < 6) (hh : a_frameHeight f = nI h) (h1 : 1 ≤ h) (h5 : h ≤ 5) (J : post (a_slots (f * 9 + 4 + (h - 1))) (f_typeCount, f_methodCount, f_linked, f_faultPlace, f_flowHeight, f_active, f_ticksLeft, f_outcome, f_latestResult, a_typeAbove, a_fieldSet, a_methodType, a_methodName, a_codeLength, a_bytes, a_isStart, a_heightAt, a_kindsAt, a_isWaiting, a_flowKinds, a_globals, a_objectType, a_fieldValue, a_isMarked, a_frameMethod, a_frameAt, upd a_frameHeight f (nI (h - 1)), a_slots)) : wpX_pop post (f_typeCount, f_methodCount, f_linked, f_faultPlace, f_flowHeight, f_active, f_ticksLeft, f_outcome, f_latestResult, a_typeAbove, a_fieldSet, a_methodType, a_methodName, a_codeLength, a_bytes, a_isStart, a_heightAt, a_kindsAt, a_isWaiting, a_flowKinds, a_globals, a_objectType, a_fieldValue, a_isMarked, a_frameMethod, a_frameAt, a_frameHeight, a_slots) (nI f) := by
  unfold wpX_pop
  simp (disch := omega) only [nI_clamp, gm_in, gm_ml, gm_al, gm_la, gm_sl, nI_add, hh, forall_eq, true_and, pk_us]
  exact J
theorem x206 (f_typeCount f_methodCount f_linked f_faultPlace f_flowHeight f_active f_ticksLeft f_outcome f_latestResult : Int32) (a_typeAbove a_fieldSet a_methodType a_methodName a_codeLength a_bytes a_isStart a_heightAt a_kindsAt a_isWaiting a_flowKinds a_globals a_objectType a_fieldValue a_isMarked a_frameMethod a_frameAt a_frameHeight a_slots : Nat → Int32) {post : SX → Prop} {f p sz : Nat} (hf : f < 6) (e : a_frameAt f = nI p) (J : post (f_typeCount, f_methodCount, f_linked, f_faultPlace, f_flowHeight, f_active, f_ticksLeft, f_outcome, f_latestResult, a_typeAbove, a_fieldSet, a_methodType, a_methodName, a_codeLength, a_bytes, a_isStart, a_heightAt, a_kindsAt, a_isWaiting, a_flowKinds, a_globals, a_objectType, a_fieldValue, a_isMarked, a_frameMethod, upd a_frameAt f (nI (p + sz)), a_frameHeight, a_slots)) : wX_step_206 post (nI f) (nI sz) f_typeCount f_methodCount f_linked f_faultPlace f_flowHeight f_active f_ticksLeft f_outcome f_latestResult a_typeAbove a_fieldSet a_methodType a_methodName a_codeLength a_bytes a_isStart a_heightAt a_kindsAt a_isWaiting a_flowKinds a_globals a_objectType a_fieldValue a_isMarked a_frameMethod a_frameAt a_frameHeight a_slots := by
  unfold wX_step_206
  simp (disch := omega) only [nI_clamp, gm_in, e, nI_add, forall_eq, true_and]
  exact J
/-! ===== the reference's last lines ===== -/
theorem e688p (g_types g_methods g_place g_result g_linked g_bad g_high g_refs g_active g_ticks g_code : Int32) (b_above b_ownField b_mType b_mName b_mLength b_bytes b_starts : Nat → Int32) (b_seen b_done : Nat → Int64) (b_heights b_local b_sure b_objType b_objField b_marked b_global b_fMethod b_fPc b_fHigh b_fLocal b_fEntry : Nat → Int32) {post : Int32 → SY → Prop} {f o nx hc tk : Nat} {ans : Int32} (hf : f < 6) (ho : o < 21) (ho2 : o ≠ 2 ∧ o ≠ 3 ∧ o ≠ 10 ∧ o ≠ 11 ∧ o ≠ 15 ∧ o ≠ 20) (hh : b_fHigh f = nI hc) (ht : tk ≤ hc) (h5 : hc ≤ 5) (J : post (-1) (g_types, g_methods, g_place, g_result, g_linked, g_bad, g_high, g_refs, g_active, g_ticks, g_code, b_above, b_ownField, b_mType, b_mName, b_mLength, b_bytes, b_starts, b_seen, b_done, b_heights, b_local, b_sure, b_objType, b_objField, b_marked, b_global, b_fMethod, upd b_fPc f (nI nx), upd (upd b_fHigh f (nI (hc - tk))) f (nI (hc - tk + 1)), b_fLocal, upd b_fEntry (f * 6 + (hc - tk)) ans)) : wY_execute_688 post (nI f) (nI o) (nI nx) ans (nI tk) g_types g_methods g_place g_result g_linked g_bad g_high g_refs g_active g_ticks g_code b_above b_ownField b_mType b_mName b_mLength b_bytes b_starts b_seen b_done b_heights b_local b_sure b_objType b_objField b_marked b_global b_fMethod b_fPc b_fHigh b_fLocal b_fEntry := by
  obtain ⟨a1, a2, a3, a4, a5, a6⟩ := ho2
  unfold wY_execute_688
  simp (disch := omega) only [nI_clamp, gm_clL, gm_in, gm_inL, gm_ml, gm_al, gm_la, gm_sl, nI_add, pk_mul, gm_eqL, gm_leL, gm_ltL, gm_Lle, gm_Llt, gm_eq, gm_le, gm_lt, gm_m1, forall_eq, true_and, Nat.not_lt_zero, Nat.add_sub_cancel, gm_z2, gm_z3, gm_z9, gm_z16, gm_z18, gm_z32, gm_z36, gm_z64, gm_z1152, not_true_eq_false, not_false_eq_true, false_implies, true_implies, and_true, implies_true, hh, gm_sb, pk_us, a1, a2, a3, a4, a5, a6]
  exact J
theorem e688n (g_types g_methods g_place g_result g_linked g_bad g_high g_refs g_active g_ticks g_code : Int32) (b_above b_ownField b_mType b_mName b_mLength b_bytes b_starts : Nat → Int32) (b_seen b_done : Nat → Int64) (b_heights b_local b_sure b_objType b_objField b_marked b_global b_fMethod b_fPc b_fHigh b_fLocal b_fEntry : Nat → Int32) {post : Int32 → SY → Prop} {f o nx hc tk : Nat} {ans : Int32} (hf : f < 6) (ho : o < 21) (ho2 : o = 2 ∨ o = 3 ∨ o = 10 ∨ o = 11 ∨ o = 15 ∨ o = 20) (hh : b_fHigh f = nI hc) (ht : tk ≤ hc) (h5 : hc ≤ 5) (J : post (-1) (g_types, g_methods, g_place, g_result, g_linked, g_bad, g_high, g_refs, g_active, g_ticks, g_code, b_above, b_ownField, b_mType, b_mName, b_mLength, b_bytes, b_starts, b_seen, b_done, b_heights, b_local, b_sure, b_objType, b_objField, b_marked, b_global, b_fMethod, upd b_fPc f (nI nx), upd b_fHigh f (nI (hc - tk)), b_fLocal, b_fEntry)) : wY_execute_688 post (nI f) (nI o) (nI nx) ans (nI tk) g_types g_methods g_place g_result g_linked g_bad g_high g_refs g_active g_ticks g_code b_above b_ownField b_mType b_mName b_mLength b_bytes b_starts b_seen b_done b_heights b_local b_sure b_objType b_objField b_marked b_global b_fMethod b_fPc b_fHigh b_fLocal b_fEntry := by
  unfold wY_execute_688
  simp (disch := omega) only [nI_clamp, gm_clL, gm_in, gm_inL, gm_ml, gm_al, gm_la, gm_sl, nI_add, pk_mul, gm_eqL, gm_leL, gm_ltL, gm_Lle, gm_Llt, gm_eq, gm_le, gm_lt, gm_m1, forall_eq, true_and, Nat.not_lt_zero, Nat.add_sub_cancel, gm_z2, gm_z3, gm_z9, gm_z16, gm_z18, gm_z32, gm_z36, gm_z64, gm_z1152, not_true_eq_false, not_false_eq_true, false_implies, true_implies, and_true, implies_true, hh, gm_sb]
  rcases ho2 with rfl | rfl | rfl | rfl | rfl | rfl
  · exact br_t rfl J
  · exact br_f (by decide) (br_t rfl J)
  · exact br_f (by decide) (br_f (by decide) (br_t rfl J))
  · exact br_f (by decide) (br_f (by decide) (br_f (by decide) (br_t rfl J)))
  · exact br_f (by decide) (br_f (by decide) (br_f (by decide) (br_f (by decide) (br_t rfl J))))
  · exact br_f (by decide) (br_f (by decide) (br_f (by decide) (br_f (by decide) (br_f (by decide) (br_t rfl J)))))
/-! ===== the two topmost entries ===== -/
theorem top_v {h f hc : Nat} {k : Nat → Nat} {sl yl ye : Nat → Int32} (hs : ∀ s, s < 4 + hc → VRm h (k s) (sl (f * 9 + s)) (ysl yl ye f s)) (h1 : 1 ≤ hc) : VRm h (k (3 + hc)) (sl (f * 9 + 4 + (hc - 1))) (ye (f * 6 + (hc - 1))) := by
  have := hs (4 + (hc - 1)) (by omega)
  rw [ysl_4, show f * 9 + (4 + (hc - 1)) = f * 9 + 4 + (hc - 1) by omega, show 4 + (hc - 1) = 3 + hc by omega] at this
  exact this
theorem sec_v {h f hc : Nat} {k : Nat → Nat} {sl yl ye : Nat → Int32} (hs : ∀ s, s < 4 + hc → VRm h (k s) (sl (f * 9 + s)) (ysl yl ye f s)) (h1 : 2 ≤ hc) : VRm h (k (2 + hc)) (sl (f * 9 + 4 + (hc - 2))) (ye (f * 6 + (hc - 2))) := by
  have := hs (4 + (hc - 2)) (by omega)
  rw [ysl_4, show f * 9 + (4 + (hc - 2)) = f * 9 + 4 + (hc - 2) by omega, show 4 + (hc - 2) = 2 + hc by omega] at this
  exact this
theorem v_int {h a : Nat} {x y : Int32} (v : VRm h a x y) (h0 : 0 < a ∧ a < 8) (s : kd_sub a 2) : x = y := v.2 (kd_s2 a h0.2 h0.1 s)
theorem v_ref {h a : Nat} {x y : Int32} (v : VRm h a x y) (h0 : 0 < a ∧ a < 8) (s : kd_sub a 4) : ∃ r, r ≤ h ∧ x = nI r ∧ y = yR r := v.1 (kd_s4 a h0.2 h0.1 s)
theorem yR_inj {a b : Nat} (ha : a ≤ 10) (hb : b ≤ 10) : (yR a = yR b ↔ a = b) := by
  revert b
  revert a
  decide +kernel
theorem v_i {h : Nat} {x : Int32} : VRm h 2 x x := ⟨fun z => absurd z (by decide), fun _ => rfl⟩
theorem v_r {h r : Nat} (hr : r ≤ h) : VRm h 4 (nI r) (yR r) := ⟨fun _ => ⟨r, hr, rfl, rfl⟩, fun z => absurd z (by decide)⟩
theorem ex_calc (f_typeCount f_methodCount f_linked f_faultPlace f_flowHeight f_active f_ticksLeft f_outcome f_latestResult : Int32) (a_typeAbove a_fieldSet a_methodType a_methodName a_codeLength a_bytes a_isStart a_heightAt a_kindsAt a_isWaiting a_flowKinds a_globals a_objectType a_fieldValue a_isMarked a_frameMethod a_frameAt a_frameHeight a_slots : Nat → Int32) {post : SX → Prop} {f h o : Nat} (hf : f < 6) (hh : a_frameHeight f = nI h) (h2 : 2 ≤ h) (h5 : h ≤ 5)
    (J : ((nI o = 7 → (((a_slots (f * 9 + 4 + (h - 1)) = 0 → (wpX_end (fun u => match u with | (f_typeCount1, f_methodCount1, f_linked1, f_faultPlace1, f_flowHeight1, f_active1, f_ticksLeft1, f_outcome1, f_latestResult1, a_typeAbove1, a_fieldSet1, a_methodType1, a_methodName1, a_codeLength1, a_bytes1, a_isStart1, a_heightAt1, a_kindsAt1, a_isWaiting1, a_flowKinds1, a_globals1, a_objectType1, a_fieldValue1, a_isMarked1, a_frameMethod1, a_frameAt1, a_frameHeight1, a_slots1) => (post (f_typeCount1, f_methodCount1, f_linked1, f_faultPlace1, f_flowHeight1, f_active1, f_ticksLeft1, f_outcome1, f_latestResult1, a_typeAbove1, a_fieldSet1, a_methodType1, a_methodName1, a_codeLength1, a_bytes1, a_isStart1, a_heightAt1, a_kindsAt1, a_isWaiting1, a_flowKinds1, a_globals1, a_objectType1, a_fieldValue1, a_isMarked1, a_frameMethod1, a_frameAt1, a_frameHeight1, a_slots1))) (f_typeCount, f_methodCount, f_linked, f_faultPlace, f_flowHeight, f_active, f_ticksLeft, f_outcome, f_latestResult, a_typeAbove, a_fieldSet, a_methodType, a_methodName, a_codeLength, a_bytes, a_isStart, a_heightAt, a_kindsAt, a_isWaiting, a_flowKinds, a_globals, a_objectType, a_fieldValue, a_isMarked, a_frameMethod, a_frameAt, upd (upd a_frameHeight f (nI (h - 1))) f (nI (h - 1 - 1)), a_slots) 1 2)) ∧ (¬ a_slots (f * 9 + 4 + (h - 1)) = 0 → (wX_calculate_30 post (nI f) (nI o) (a_slots (f * 9 + 4 + (h - 1))) (a_slots (f * 9 + 4 + (h - 1 - 1))) f_typeCount f_methodCount f_linked f_faultPlace f_flowHeight f_active f_ticksLeft f_outcome f_latestResult a_typeAbove a_fieldSet a_methodType a_methodName a_codeLength a_bytes a_isStart a_heightAt a_kindsAt a_isWaiting a_flowKinds a_globals a_objectType a_fieldValue a_isMarked a_frameMethod a_frameAt (upd (upd a_frameHeight f (nI (h - 1))) f (nI (h - 1 - 1))) a_slots))))) ∧ (¬ nI o = 7 → (wX_calculate_30 post (nI f) (nI o) (a_slots (f * 9 + 4 + (h - 1))) (a_slots (f * 9 + 4 + (h - 1 - 1))) f_typeCount f_methodCount f_linked f_faultPlace f_flowHeight f_active f_ticksLeft f_outcome f_latestResult a_typeAbove a_fieldSet a_methodType a_methodName a_codeLength a_bytes a_isStart a_heightAt a_kindsAt a_isWaiting a_flowKinds a_globals a_objectType a_fieldValue a_isMarked a_frameMethod a_frameAt (upd (upd a_frameHeight f (nI (h - 1))) f (nI (h - 1 - 1))) a_slots)))) : wpX_calculate post (f_typeCount, f_methodCount, f_linked, f_faultPlace, f_flowHeight, f_active, f_ticksLeft, f_outcome, f_latestResult, a_typeAbove, a_fieldSet, a_methodType, a_methodName, a_codeLength, a_bytes, a_isStart, a_heightAt, a_kindsAt, a_isWaiting, a_flowKinds, a_globals, a_objectType, a_fieldValue, a_isMarked, a_frameMethod, a_frameAt, a_frameHeight, a_slots) (nI f) (nI o) := by
  unfold wpX_calculate
  exact ex_pop f_typeCount f_methodCount f_linked f_faultPlace f_flowHeight f_active f_ticksLeft f_outcome f_latestResult a_typeAbove a_fieldSet a_methodType a_methodName a_codeLength a_bytes a_isStart a_heightAt a_kindsAt a_isWaiting a_flowKinds a_globals a_objectType a_fieldValue a_isMarked a_frameMethod a_frameAt a_frameHeight a_slots hf hh (by omega) h5 (ex_pop f_typeCount f_methodCount f_linked f_faultPlace f_flowHeight f_active f_ticksLeft f_outcome f_latestResult a_typeAbove a_fieldSet a_methodType a_methodName a_codeLength a_bytes a_isStart a_heightAt a_kindsAt a_isWaiting a_flowKinds a_globals a_objectType a_fieldValue a_isMarked a_frameMethod a_frameAt (upd a_frameHeight f (nI (h - 1))) a_slots hf pk_us (by omega) (by omega) J)
theorem xc127 (f_typeCount f_methodCount f_linked f_faultPlace f_flowHeight f_active f_ticksLeft f_outcome f_latestResult : Int32) (a_typeAbove a_fieldSet a_methodType a_methodName a_codeLength a_bytes a_isStart a_heightAt a_kindsAt a_isWaiting a_flowKinds a_globals a_objectType a_fieldValue a_isMarked a_frameMethod a_frameAt a_frameHeight a_slots : Nat → Int32) {post : SX → Prop} {x1 z0 : Int32} (J : wpX_push post (f_typeCount, f_methodCount, f_linked, f_faultPlace, f_flowHeight, f_active, f_ticksLeft, f_outcome, f_latestResult, a_typeAbove, a_fieldSet, a_methodType, a_methodName, a_codeLength, a_bytes, a_isStart, a_heightAt, a_kindsAt, a_isWaiting, a_flowKinds, a_globals, a_objectType, a_fieldValue, a_isMarked, a_frameMethod, a_frameAt, a_frameHeight, a_slots) x1 z0) : wX_calculate_127 post x1 z0 f_typeCount f_methodCount f_linked f_faultPlace f_flowHeight f_active f_ticksLeft f_outcome f_latestResult a_typeAbove a_fieldSet a_methodType a_methodName a_codeLength a_bytes a_isStart a_heightAt a_kindsAt a_isWaiting a_flowKinds a_globals a_objectType a_fieldValue a_isMarked a_frameMethod a_frameAt a_frameHeight a_slots := by
  unfold wX_calculate_127 wX_calculate_129
  exact J
theorem xc111 (f_typeCount f_methodCount f_linked f_faultPlace f_flowHeight f_active f_ticksLeft f_outcome f_latestResult : Int32) (a_typeAbove a_fieldSet a_methodType a_methodName a_codeLength a_bytes a_isStart a_heightAt a_kindsAt a_isWaiting a_flowKinds a_globals a_objectType a_fieldValue a_isMarked a_frameMethod a_frameAt a_frameHeight a_slots : Nat → Int32) {post : SX → Prop} {x1 z0 : Int32} (J : wpX_push post (f_typeCount, f_methodCount, f_linked, f_faultPlace, f_flowHeight, f_active, f_ticksLeft, f_outcome, f_latestResult, a_typeAbove, a_fieldSet, a_methodType, a_methodName, a_codeLength, a_bytes, a_isStart, a_heightAt, a_kindsAt, a_isWaiting, a_flowKinds, a_globals, a_objectType, a_fieldValue, a_isMarked, a_frameMethod, a_frameAt, a_frameHeight, a_slots) x1 z0) : wX_calculate_111 post x1 z0 f_typeCount f_methodCount f_linked f_faultPlace f_flowHeight f_active f_ticksLeft f_outcome f_latestResult a_typeAbove a_fieldSet a_methodType a_methodName a_codeLength a_bytes a_isStart a_heightAt a_kindsAt a_isWaiting a_flowKinds a_globals a_objectType a_fieldValue a_isMarked a_frameMethod a_frameAt a_frameHeight a_slots := by
  unfold wX_calculate_111 wX_calculate_129
  exact J
end
section
theorem op_0 (f_flowHeight f_latestResult : Int32) (a_typeAbove a_fieldSet a_methodType a_methodName a_codeLength a_bytes a_isStart a_heightAt a_kindsAt a_isWaiting a_flowKinds a_globals a_objectType a_fieldValue a_isMarked a_frameMethod a_frameAt a_frameHeight a_slots : Nat → Int32) (g_result g_bad g_high g_refs g_code : Int32) (b_ownField b_starts : Nat → Int32) (b_seen b_done : Nat → Int64) (b_heights b_local b_sure b_objType b_objField b_marked b_global b_fMethod b_fPc b_fHigh b_fLocal b_fEntry : Nat → Int32) {tc mc h f t m p hc o b nm : Nat} {mF pF hF : Nat → Nat} (C : CT tc mc h f t m p hc o b nm a_typeAbove a_fieldSet b_ownField a_methodName a_codeLength a_bytes a_heightAt a_kindsAt b_sure a_globals a_objectType a_fieldValue b_global b_objType b_objField a_frameMethod a_frameAt a_frameHeight a_slots b_fMethod b_fPc b_fHigh b_fLocal b_fEntry mF pF hF) (eo : o = 0) : SO (64 * t + sp pF (f + 1)) (nI tc, nI mc, 1, -1, f_flowHeight, nI (f + 1), nI t, -1, f_latestResult, a_typeAbove, a_fieldSet, a_methodType, a_methodName, a_codeLength, a_bytes, a_isStart, a_heightAt, a_kindsAt, a_isWaiting, a_flowKinds, a_globals, a_objectType, a_fieldValue, a_isMarked, a_frameMethod, a_frameAt, a_frameHeight, a_slots) (nI tc, nI mc, -1, g_result, 1, g_bad, g_high, g_refs, nI (f + 1), nI t, g_code, a_typeAbove, b_ownField, a_methodType, a_methodName, a_codeLength, a_bytes, b_starts, b_seen, b_done, b_heights, b_local, b_sure, b_objType, b_objField, b_marked, b_global, b_fMethod, b_fPc, b_fHigh, b_fLocal, b_fEntry) := by
  obtain ⟨q1, q2, q3, q4, q5, q6, q7, q8, q9, q10, q11, q12, q13, q14, q15, q16, q17, q18, q19, q20, q21, q22, q23, q24⟩ := ct_F C
  have f6 := C.2.2.2.2.1
  have HH := C.2.2.2.1
  subst eo
  have x1 := q21.1
  have x5 : is_gv 0 = true → hc - is_tk 0 < 5 := q21.2.2.2.2
  have tk : is_tk 0 = 0 := rfl
  have gv : is_gv 0 = true := rfl
  rw [tk] at x1 x5
  have x5 := x5 gv
  refine so_top f_flowHeight f_latestResult a_typeAbove a_fieldSet a_methodType a_methodName a_codeLength a_bytes a_isStart a_heightAt a_kindsAt a_isWaiting a_flowKinds a_globals a_objectType a_fieldValue a_isMarked a_frameMethod a_frameAt a_frameHeight a_slots g_result g_bad g_high g_refs g_code b_ownField b_starts b_seen b_done b_heights b_local b_sure b_objType b_objField b_marked b_global b_fMethod b_fPc b_fHigh b_fLocal b_fEntry (t' := t) (p' := p + 2) (h' := h) (gl' := a_globals) (ot' := a_objectType) (fv' := a_fieldValue) (xm' := a_isMarked) (fa' := upd a_frameAt f (nI (p + 2))) (fh' := upd (a_frameHeight) f (nI (hc + 1))) (sl' := upd a_slots (f * 9 + 4 + (hc)) ((nI b).toInt8.toInt32)) (yg' := b_global) (yt' := b_objType) (yf' := b_objField) (ym' := b_marked) (yp' := upd b_fPc f (nI (p + 2))) (yh' := upd (upd b_fHigh f (nI (hc - 0))) f (nI (hc - 0 + 1))) (yl' := b_fLocal) (ye' := upd b_fEntry (f * 6 + (hc - 0)) ((nI b).toInt8.toInt32)) C (Or.inr ⟨by decide, by decide, rfl⟩) (Nat.le_refl _) HH (Or.inl ⟨rfl, by omega⟩) (fun i hi => pk_un (by omega)) (fun i hi => pk_un (by omega)) ?e5 ?e6 ?e7 ?e8 pk_us pk_us ?t5 ?t6 ?hs ?gX ?gY
  case e5 => exact fun i hi => by rw [pk_un (by omega)]
  case e6 => exact fun i hi => by rw [pk_un (by omega), pk_un (by omega)]
  case e7 => exact fun i s hi hs => pk_un (by omega)
  case e8 => exact fun i s hi hs => ysl_e (by omega) hs (fun w => by omega)
  case t5 => rw [pk_us]; show nI (hc + 1) = nI (hc - 0 + 1); rfl
  case t6 => rw [pk_us]; show nI (hc - 0 + 1) = nI (hc - 0 + 1); rfl
  case hs =>
    have e := vr_push (f := f) (g := 2) (ax := (nI b).toInt8.toInt32) (ay := (nI b).toInt8.toInt32) q21 gv (by decide) q5 (Nat.le_refl h) q23 rfl v_i
    rw [tk] at e
    rw [Nat.sub_zero] at e ⊢
    exact e
  case gX =>
    intro post J
    refine x_pre f_flowHeight f_latestResult a_typeAbove a_fieldSet a_methodType a_methodName a_codeLength a_bytes a_isStart a_heightAt a_kindsAt a_isWaiting a_flowKinds a_globals a_objectType a_fieldValue a_isMarked a_frameMethod a_frameAt a_frameHeight a_slots g_result g_bad g_high g_refs g_code b_ownField b_starts b_seen b_done b_heights b_local b_sure b_objType b_objField b_marked b_global b_fMethod b_fPc b_fHigh b_fLocal b_fEntry C ?_
    exact br_t (by decide) (br_t (by decide) (br_f (by decide) (br_f (by decide) (br_t (by decide) (ex_push (nI tc) (nI mc) 1 (-1) f_flowHeight (nI (f + 1)) (nI t) (-1) f_latestResult a_typeAbove a_fieldSet a_methodType a_methodName a_codeLength a_bytes a_isStart a_heightAt a_kindsAt a_isWaiting a_flowKinds a_globals a_objectType a_fieldValue a_isMarked a_frameMethod a_frameAt a_frameHeight a_slots (by omega) q18 (by omega) (x206 (nI tc) (nI mc) 1 (-1) f_flowHeight (nI (f + 1)) (nI t) (-1) f_latestResult a_typeAbove a_fieldSet a_methodType a_methodName a_codeLength a_bytes a_isStart a_heightAt a_kindsAt a_isWaiting a_flowKinds a_globals a_objectType a_fieldValue a_isMarked a_frameMethod a_frameAt _ _ (by omega) q16 J))))))
  case gY =>
    intro post J
    refine y_pre f_flowHeight f_latestResult a_typeAbove a_fieldSet a_methodType a_methodName a_codeLength a_bytes a_isStart a_heightAt a_kindsAt a_isWaiting a_flowKinds a_globals a_objectType a_fieldValue a_isMarked a_frameMethod a_frameAt a_frameHeight a_slots g_result g_bad g_high g_refs g_code b_ownField b_starts b_seen b_done b_heights b_local b_sure b_objType b_objField b_marked b_global b_fMethod b_fPc b_fHigh b_fLocal b_fEntry C (fun b1 hb1 hb2 => ?_)
    rw [hb1 rfl]
    exact br_f (by decide) (br_f (by decide) (br_f (by decide) (br_f (by decide) (br_f (by decide) (br_f (by decide) (br_f (by decide) (br_f (by decide) (br_f (by decide) (br_f (by decide) (br_f (by decide) (br_t (by decide) (br_f (by decide) (br_f (by decide) (br_f (by decide) (br_f (by decide) (br_f (by decide) (br_f (by decide) (br_f (by decide) (br_f (by decide) (br_f (by decide) (br_f (by decide) (br_f (by decide) (br_f (by decide) (br_f (by decide) (br_f (by decide) (br_t (by decide) (br_f (by decide) (br_f (by decide) (br_f (by decide) (br_f (by decide) (br_f (by decide) (br_f (by decide) (br_f (by decide) (e688p (nI tc) (nI mc) (-1) g_result 1 g_bad g_high g_refs (nI (f + 1)) (nI t) g_code a_typeAbove b_ownField a_methodType a_methodName a_codeLength a_bytes b_starts b_seen b_done b_heights b_local b_sure b_objType b_objField b_marked b_global b_fMethod b_fPc b_fHigh b_fLocal b_fEntry (tk := 0) (by omega) q6 (by decide) q19 (by omega) q5 J))))))))))))))))))))))))))))))))))
theorem op_12 (f_flowHeight f_latestResult : Int32) (a_typeAbove a_fieldSet a_methodType a_methodName a_codeLength a_bytes a_isStart a_heightAt a_kindsAt a_isWaiting a_flowKinds a_globals a_objectType a_fieldValue a_isMarked a_frameMethod a_frameAt a_frameHeight a_slots : Nat → Int32) (g_result g_bad g_high g_refs g_code : Int32) (b_ownField b_starts : Nat → Int32) (b_seen b_done : Nat → Int64) (b_heights b_local b_sure b_objType b_objField b_marked b_global b_fMethod b_fPc b_fHigh b_fLocal b_fEntry : Nat → Int32) {tc mc h f t m p hc o b nm : Nat} {mF pF hF : Nat → Nat} (C : CT tc mc h f t m p hc o b nm a_typeAbove a_fieldSet b_ownField a_methodName a_codeLength a_bytes a_heightAt a_kindsAt b_sure a_globals a_objectType a_fieldValue b_global b_objType b_objField a_frameMethod a_frameAt a_frameHeight a_slots b_fMethod b_fPc b_fHigh b_fLocal b_fEntry mF pF hF) (eo : o = 12) : SO (64 * t + sp pF (f + 1)) (nI tc, nI mc, 1, -1, f_flowHeight, nI (f + 1), nI t, -1, f_latestResult, a_typeAbove, a_fieldSet, a_methodType, a_methodName, a_codeLength, a_bytes, a_isStart, a_heightAt, a_kindsAt, a_isWaiting, a_flowKinds, a_globals, a_objectType, a_fieldValue, a_isMarked, a_frameMethod, a_frameAt, a_frameHeight, a_slots) (nI tc, nI mc, -1, g_result, 1, g_bad, g_high, g_refs, nI (f + 1), nI t, g_code, a_typeAbove, b_ownField, a_methodType, a_methodName, a_codeLength, a_bytes, b_starts, b_seen, b_done, b_heights, b_local, b_sure, b_objType, b_objField, b_marked, b_global, b_fMethod, b_fPc, b_fHigh, b_fLocal, b_fEntry) := by
  obtain ⟨q1, q2, q3, q4, q5, q6, q7, q8, q9, q10, q11, q12, q13, q14, q15, q16, q17, q18, q19, q20, q21, q22, q23, q24⟩ := ct_F C
  have f6 := C.2.2.2.2.1
  have HH := C.2.2.2.1
  subst eo
  have x1 := q21.1
  have x5 : is_gv 12 = true → hc - is_tk 12 < 5 := q21.2.2.2.2
  have tk : is_tk 12 = 0 := rfl
  have gv : is_gv 12 = true := rfl
  rw [tk] at x1 x5
  have x5 := x5 gv
  refine so_top f_flowHeight f_latestResult a_typeAbove a_fieldSet a_methodType a_methodName a_codeLength a_bytes a_isStart a_heightAt a_kindsAt a_isWaiting a_flowKinds a_globals a_objectType a_fieldValue a_isMarked a_frameMethod a_frameAt a_frameHeight a_slots g_result g_bad g_high g_refs g_code b_ownField b_starts b_seen b_done b_heights b_local b_sure b_objType b_objField b_marked b_global b_fMethod b_fPc b_fHigh b_fLocal b_fEntry (t' := t) (p' := p + 1) (h' := h) (gl' := a_globals) (ot' := a_objectType) (fv' := a_fieldValue) (xm' := a_isMarked) (fa' := upd a_frameAt f (nI (p + 1))) (fh' := upd (a_frameHeight) f (nI (hc + 1))) (sl' := upd a_slots (f * 9 + 4 + (hc)) (0)) (yg' := b_global) (yt' := b_objType) (yf' := b_objField) (ym' := b_marked) (yp' := upd b_fPc f (nI (p + 1))) (yh' := upd (upd b_fHigh f (nI (hc - 0))) f (nI (hc - 0 + 1))) (yl' := b_fLocal) (ye' := upd b_fEntry (f * 6 + (hc - 0)) (-1)) C (Or.inr ⟨by decide, by decide, rfl⟩) (Nat.le_refl _) HH (Or.inl ⟨rfl, by omega⟩) (fun i hi => pk_un (by omega)) (fun i hi => pk_un (by omega)) ?e5 ?e6 ?e7 ?e8 pk_us pk_us ?t5 ?t6 ?hs ?gX ?gY
  case e5 => exact fun i hi => by rw [pk_un (by omega)]
  case e6 => exact fun i hi => by rw [pk_un (by omega), pk_un (by omega)]
  case e7 => exact fun i s hi hs => pk_un (by omega)
  case e8 => exact fun i s hi hs => ysl_e (by omega) hs (fun w => by omega)
  case t5 => rw [pk_us]; show nI (hc + 1) = nI (hc - 0 + 1); rfl
  case t6 => rw [pk_us]; show nI (hc - 0 + 1) = nI (hc - 0 + 1); rfl
  case hs =>
    have e := vr_push (f := f) (g := 4) (ax := 0) (ay := -1) q21 gv (by decide) q5 (Nat.le_refl h) q23 rfl ⟨fun _ => ⟨0, by omega, rfl, by rw [yR_0]⟩, fun z => absurd z (by decide)⟩
    rw [tk] at e
    rw [Nat.sub_zero] at e ⊢
    exact e
  case gX =>
    intro post J
    refine x_pre f_flowHeight f_latestResult a_typeAbove a_fieldSet a_methodType a_methodName a_codeLength a_bytes a_isStart a_heightAt a_kindsAt a_isWaiting a_flowKinds a_globals a_objectType a_fieldValue a_isMarked a_frameMethod a_frameAt a_frameHeight a_slots g_result g_bad g_high g_refs g_code b_ownField b_starts b_seen b_done b_heights b_local b_sure b_objType b_objField b_marked b_global b_fMethod b_fPc b_fHigh b_fLocal b_fEntry C ?_
    exact br_f (by decide) (br_f (by decide) (br_f (by decide) (br_f (by decide) (br_t (by decide) (br_f (by decide) (br_t (by decide) (br_f (by decide) (br_f (by decide) (br_f (by decide) (br_f (by decide) (br_f (by decide) (br_f (by decide) (br_f (by decide) (br_f (by decide) (br_f (by decide) (br_f (by decide) (br_f (by decide) (br_f (by decide) (br_f (by decide) (br_f (by decide) (br_t (by decide) (ex_push (nI tc) (nI mc) 1 (-1) f_flowHeight (nI (f + 1)) (nI t) (-1) f_latestResult a_typeAbove a_fieldSet a_methodType a_methodName a_codeLength a_bytes a_isStart a_heightAt a_kindsAt a_isWaiting a_flowKinds a_globals a_objectType a_fieldValue a_isMarked a_frameMethod a_frameAt a_frameHeight a_slots (v := 0) (by omega) q18 (by omega) (x206 (nI tc) (nI mc) 1 (-1) f_flowHeight (nI (f + 1)) (nI t) (-1) f_latestResult a_typeAbove a_fieldSet a_methodType a_methodName a_codeLength a_bytes a_isStart a_heightAt a_kindsAt a_isWaiting a_flowKinds a_globals a_objectType a_fieldValue a_isMarked a_frameMethod a_frameAt _ _ (by omega) q16 J)))))))))))))))))))))))
  case gY =>
    intro post J
    refine y_pre f_flowHeight f_latestResult a_typeAbove a_fieldSet a_methodType a_methodName a_codeLength a_bytes a_isStart a_heightAt a_kindsAt a_isWaiting a_flowKinds a_globals a_objectType a_fieldValue a_isMarked a_frameMethod a_frameAt a_frameHeight a_slots g_result g_bad g_high g_refs g_code b_ownField b_starts b_seen b_done b_heights b_local b_sure b_objType b_objField b_marked b_global b_fMethod b_fPc b_fHigh b_fLocal b_fEntry C (fun b1 hb1 hb2 => ?_)
    exact br_f (by decide) (br_f (by decide) (br_f (by decide) (br_f (by decide) (br_f (by decide) (br_f (by decide) (br_f (by decide) (br_f (by decide) (br_f (by decide) (br_f (by decide) (br_f (by decide) (br_f (by decide) (br_f (by decide) (br_f (by decide) (br_f (by decide) (br_f (by decide) (br_f (by decide) (br_f (by decide) (br_f (by decide) (br_t (by decide) (br_f (by decide) (br_f (by decide) (br_f (by decide) (br_f (by decide) (br_f (by decide) (br_f (by decide) (br_f (by decide) (br_f (by decide) (br_f (by decide) (br_f (by decide) (br_f (by decide) (br_f (by decide) (br_f (by decide) (br_f (by decide) (br_f (by decide) (e688p (nI tc) (nI mc) (-1) g_result 1 g_bad g_high g_refs (nI (f + 1)) (nI t) g_code a_typeAbove b_ownField a_methodType a_methodName a_codeLength a_bytes b_starts b_seen b_done b_heights b_local b_sure b_objType b_objField b_marked b_global b_fMethod b_fPc b_fHigh b_fLocal b_fEntry (tk := 0) (by omega) q6 (by decide) q19 (by omega) q5 J)))))))))))))))))))))))))))))))))))
theorem op_4 (f_flowHeight f_latestResult : Int32) (a_typeAbove a_fieldSet a_methodType a_methodName a_codeLength a_bytes a_isStart a_heightAt a_kindsAt a_isWaiting a_flowKinds a_globals a_objectType a_fieldValue a_isMarked a_frameMethod a_frameAt a_frameHeight a_slots : Nat → Int32) (g_result g_bad g_high g_refs g_code : Int32) (b_ownField b_starts : Nat → Int32) (b_seen b_done : Nat → Int64) (b_heights b_local b_sure b_objType b_objField b_marked b_global b_fMethod b_fPc b_fHigh b_fLocal b_fEntry : Nat → Int32) {tc mc h f t m p hc o b nm : Nat} {mF pF hF : Nat → Nat} (C : CT tc mc h f t m p hc o b nm a_typeAbove a_fieldSet b_ownField a_methodName a_codeLength a_bytes a_heightAt a_kindsAt b_sure a_globals a_objectType a_fieldValue b_global b_objType b_objField a_frameMethod a_frameAt a_frameHeight a_slots b_fMethod b_fPc b_fHigh b_fLocal b_fEntry mF pF hF) (eo : o = 4) : SO (64 * t + sp pF (f + 1)) (nI tc, nI mc, 1, -1, f_flowHeight, nI (f + 1), nI t, -1, f_latestResult, a_typeAbove, a_fieldSet, a_methodType, a_methodName, a_codeLength, a_bytes, a_isStart, a_heightAt, a_kindsAt, a_isWaiting, a_flowKinds, a_globals, a_objectType, a_fieldValue, a_isMarked, a_frameMethod, a_frameAt, a_frameHeight, a_slots) (nI tc, nI mc, -1, g_result, 1, g_bad, g_high, g_refs, nI (f + 1), nI t, g_code, a_typeAbove, b_ownField, a_methodType, a_methodName, a_codeLength, a_bytes, b_starts, b_seen, b_done, b_heights, b_local, b_sure, b_objType, b_objField, b_marked, b_global, b_fMethod, b_fPc, b_fHigh, b_fLocal, b_fEntry) := by
  obtain ⟨q1, q2, q3, q4, q5, q6, q7, q8, q9, q10, q11, q12, q13, q14, q15, q16, q17, q18, q19, q20, q21, q22, q23, q24⟩ := ct_F C
  have f6 := C.2.2.2.2.1
  have HH := C.2.2.2.1
  subst eo
  have x1 := q21.1
  have x5 : is_gv 4 = true → hc - is_tk 4 < 5 := q21.2.2.2.2
  have tk : is_tk 4 = 2 := rfl
  have gv : is_gv 4 = true := rfl
  rw [tk] at x1 x5
  have x5 := x5 gv
  have x2 := q21.2.1 (by decide)
  have x3 := q21.2.2.1 rfl
  have ev := v_int (top_v q23 (by omega)) (q22 _ (by omega)) x2
  have eu := v_int (sec_v q23 x1) (q22 _ (by omega)) x3
  refine so_top f_flowHeight f_latestResult a_typeAbove a_fieldSet a_methodType a_methodName a_codeLength a_bytes a_isStart a_heightAt a_kindsAt a_isWaiting a_flowKinds a_globals a_objectType a_fieldValue a_isMarked a_frameMethod a_frameAt a_frameHeight a_slots g_result g_bad g_high g_refs g_code b_ownField b_starts b_seen b_done b_heights b_local b_sure b_objType b_objField b_marked b_global b_fMethod b_fPc b_fHigh b_fLocal b_fEntry (t' := t) (p' := p + 1) (h' := h) (gl' := a_globals) (ot' := a_objectType) (fv' := a_fieldValue) (xm' := a_isMarked) (fa' := upd a_frameAt f (nI (p + 1))) (fh' := upd (upd (upd (a_frameHeight) f (nI (hc - 1))) f (nI (hc - 1 - 1))) f (nI (hc - 1 - 1 + 1))) (sl' := upd a_slots (f * 9 + 4 + (hc - 1 - 1)) (a_slots (f * 9 + 4 + (hc - 1 - 1)) + a_slots (f * 9 + 4 + (hc - 1)))) (yg' := b_global) (yt' := b_objType) (yf' := b_objField) (ym' := b_marked) (yp' := upd b_fPc f (nI (p + 1))) (yh' := upd (upd b_fHigh f (nI (hc - 2))) f (nI (hc - 2 + 1))) (yl' := b_fLocal) (ye' := upd b_fEntry (f * 6 + (hc - 2)) (b_fEntry (f * 6 + (hc - 2)) + b_fEntry (f * 6 + (hc - 1)))) C (Or.inr ⟨by decide, by decide, rfl⟩) (Nat.le_refl _) HH (Or.inl ⟨rfl, by omega⟩) (fun i hi => pk_un (by omega)) (fun i hi => pk_un (by omega)) ?e5 ?e6 ?e7 ?e8 pk_us pk_us ?t5 ?t6 ?hs ?gX ?gY
  case e5 => exact fun i hi => by rw [pk_un (by omega), pk_un (by omega), pk_un (by omega)]
  case e6 => exact fun i hi => by rw [pk_un (by omega), pk_un (by omega)]
  case e7 => exact fun i s hi hs => pk_un (by omega)
  case e8 => exact fun i s hi hs => ysl_e (by omega) hs (fun w => by omega)
  case t5 => rw [pk_us]; show nI (hc - 1 - 1 + 1) = nI (hc - 2 + 1); rfl
  case t6 => rw [pk_us]; show nI (hc - 2 + 1) = nI (hc - 2 + 1); rfl
  case hs =>
    have e := vr_push (f := f) (g := 2) (ax := a_slots (f * 9 + 4 + (hc - 1 - 1)) + a_slots (f * 9 + 4 + (hc - 1))) (ay := b_fEntry (f * 6 + (hc - 2)) + b_fEntry (f * 6 + (hc - 1))) q21 gv (by decide) q5 (Nat.le_refl h) q23 rfl (by rw [ev, show hc - 1 - 1 = hc - 2 by omega, eu]; exact v_i)
    rw [tk] at e
    rw [show hc - 1 - 1 = hc - 2 by omega]
    exact e
  case gX =>
    intro post J
    refine x_pre f_flowHeight f_latestResult a_typeAbove a_fieldSet a_methodType a_methodName a_codeLength a_bytes a_isStart a_heightAt a_kindsAt a_isWaiting a_flowKinds a_globals a_objectType a_fieldValue a_isMarked a_frameMethod a_frameAt a_frameHeight a_slots g_result g_bad g_high g_refs g_code b_ownField b_starts b_seen b_done b_heights b_local b_sure b_objType b_objField b_marked b_global b_fMethod b_fPc b_fHigh b_fLocal b_fEntry C ?_
    exact br_t (by decide) (br_f (by decide) (br_f (by decide) (ex_calc (nI tc) (nI mc) 1 (-1) f_flowHeight (nI (f + 1)) (nI t) (-1) f_latestResult a_typeAbove a_fieldSet a_methodType a_methodName a_codeLength a_bytes a_isStart a_heightAt a_kindsAt a_isWaiting a_flowKinds a_globals a_objectType a_fieldValue a_isMarked a_frameMethod a_frameAt a_frameHeight a_slots (by omega) q18 (by omega) q5 (br_f (by decide) (br_f (by decide) (br_f (by decide) (br_t (by decide) (nm_e (ex_push (nI tc) (nI mc) 1 (-1) f_flowHeight (nI (f + 1)) (nI t) (-1) f_latestResult a_typeAbove a_fieldSet a_methodType a_methodName a_codeLength a_bytes a_isStart a_heightAt a_kindsAt a_isWaiting a_flowKinds a_globals a_objectType a_fieldValue a_isMarked a_frameMethod a_frameAt _ a_slots (by omega) pk_us (by omega) (x206 (nI tc) (nI mc) 1 (-1) f_flowHeight (nI (f + 1)) (nI t) (-1) f_latestResult a_typeAbove a_fieldSet a_methodType a_methodName a_codeLength a_bytes a_isStart a_heightAt a_kindsAt a_isWaiting a_flowKinds a_globals a_objectType a_fieldValue a_isMarked a_frameMethod a_frameAt _ _ (by omega) q16 J))))))))))
  case gY =>
    intro post J
    refine y_pre f_flowHeight f_latestResult a_typeAbove a_fieldSet a_methodType a_methodName a_codeLength a_bytes a_isStart a_heightAt a_kindsAt a_isWaiting a_flowKinds a_globals a_objectType a_fieldValue a_isMarked a_frameMethod a_frameAt a_frameHeight a_slots g_result g_bad g_high g_refs g_code b_ownField b_starts b_seen b_done b_heights b_local b_sure b_objType b_objField b_marked b_global b_fMethod b_fPc b_fHigh b_fLocal b_fEntry C (fun b1 hb1 hb2 => ?_)
    rw [if_pos (by omega), if_pos (by omega)]
    exact br_f (by decide) (br_f (by decide) (br_f (by decide) (br_f (by decide) (br_f (by decide) (br_f (by decide) (br_f (by decide) (br_f (by decide) (br_f (by decide) (br_f (by decide) (br_f (by decide) (br_f (by decide) (br_f (by decide) (br_t (by decide) (nm_e (br_f (by decide) (br_f (by decide) (br_f (by decide) (br_f (by decide) (br_f (by decide) (br_f (by decide) (br_f (by decide) (br_f (by decide) (br_f (by decide) (br_f (by decide) (br_f (by decide) (br_f (by decide) (br_f (by decide) (br_t (by decide) (e688p (nI tc) (nI mc) (-1) g_result 1 g_bad g_high g_refs (nI (f + 1)) (nI t) g_code a_typeAbove b_ownField a_methodType a_methodName a_codeLength a_bytes b_starts b_seen b_done b_heights b_local b_sure b_objType b_objField b_marked b_global b_fMethod b_fPc b_fHigh b_fLocal b_fEntry (tk := 2) (by omega) q6 (by decide) q19 (by omega) q5 J)))))))))))))))))))))))))))))
theorem op_5 (f_flowHeight f_latestResult : Int32) (a_typeAbove a_fieldSet a_methodType a_methodName a_codeLength a_bytes a_isStart a_heightAt a_kindsAt a_isWaiting a_flowKinds a_globals a_objectType a_fieldValue a_isMarked a_frameMethod a_frameAt a_frameHeight a_slots : Nat → Int32) (g_result g_bad g_high g_refs g_code : Int32) (b_ownField b_starts : Nat → Int32) (b_seen b_done : Nat → Int64) (b_heights b_local b_sure b_objType b_objField b_marked b_global b_fMethod b_fPc b_fHigh b_fLocal b_fEntry : Nat → Int32) {tc mc h f t m p hc o b nm : Nat} {mF pF hF : Nat → Nat} (C : CT tc mc h f t m p hc o b nm a_typeAbove a_fieldSet b_ownField a_methodName a_codeLength a_bytes a_heightAt a_kindsAt b_sure a_globals a_objectType a_fieldValue b_global b_objType b_objField a_frameMethod a_frameAt a_frameHeight a_slots b_fMethod b_fPc b_fHigh b_fLocal b_fEntry mF pF hF) (eo : o = 5) : SO (64 * t + sp pF (f + 1)) (nI tc, nI mc, 1, -1, f_flowHeight, nI (f + 1), nI t, -1, f_latestResult, a_typeAbove, a_fieldSet, a_methodType, a_methodName, a_codeLength, a_bytes, a_isStart, a_heightAt, a_kindsAt, a_isWaiting, a_flowKinds, a_globals, a_objectType, a_fieldValue, a_isMarked, a_frameMethod, a_frameAt, a_frameHeight, a_slots) (nI tc, nI mc, -1, g_result, 1, g_bad, g_high, g_refs, nI (f + 1), nI t, g_code, a_typeAbove, b_ownField, a_methodType, a_methodName, a_codeLength, a_bytes, b_starts, b_seen, b_done, b_heights, b_local, b_sure, b_objType, b_objField, b_marked, b_global, b_fMethod, b_fPc, b_fHigh, b_fLocal, b_fEntry) := by
  obtain ⟨q1, q2, q3, q4, q5, q6, q7, q8, q9, q10, q11, q12, q13, q14, q15, q16, q17, q18, q19, q20, q21, q22, q23, q24⟩ := ct_F C
  have f6 := C.2.2.2.2.1
  have HH := C.2.2.2.1
  subst eo
  have x1 := q21.1
  have x5 : is_gv 5 = true → hc - is_tk 5 < 5 := q21.2.2.2.2
  have tk : is_tk 5 = 2 := rfl
  have gv : is_gv 5 = true := rfl
  rw [tk] at x1 x5
  have x5 := x5 gv
  have x2 := q21.2.1 (by decide)
  have x3 := q21.2.2.1 rfl
  have ev := v_int (top_v q23 (by omega)) (q22 _ (by omega)) x2
  have eu := v_int (sec_v q23 x1) (q22 _ (by omega)) x3
  refine so_top f_flowHeight f_latestResult a_typeAbove a_fieldSet a_methodType a_methodName a_codeLength a_bytes a_isStart a_heightAt a_kindsAt a_isWaiting a_flowKinds a_globals a_objectType a_fieldValue a_isMarked a_frameMethod a_frameAt a_frameHeight a_slots g_result g_bad g_high g_refs g_code b_ownField b_starts b_seen b_done b_heights b_local b_sure b_objType b_objField b_marked b_global b_fMethod b_fPc b_fHigh b_fLocal b_fEntry (t' := t) (p' := p + 1) (h' := h) (gl' := a_globals) (ot' := a_objectType) (fv' := a_fieldValue) (xm' := a_isMarked) (fa' := upd a_frameAt f (nI (p + 1))) (fh' := upd (upd (upd (a_frameHeight) f (nI (hc - 1))) f (nI (hc - 1 - 1))) f (nI (hc - 1 - 1 + 1))) (sl' := upd a_slots (f * 9 + 4 + (hc - 1 - 1)) (a_slots (f * 9 + 4 + (hc - 1 - 1)) - a_slots (f * 9 + 4 + (hc - 1)))) (yg' := b_global) (yt' := b_objType) (yf' := b_objField) (ym' := b_marked) (yp' := upd b_fPc f (nI (p + 1))) (yh' := upd (upd b_fHigh f (nI (hc - 2))) f (nI (hc - 2 + 1))) (yl' := b_fLocal) (ye' := upd b_fEntry (f * 6 + (hc - 2)) (b_fEntry (f * 6 + (hc - 2)) - b_fEntry (f * 6 + (hc - 1)))) C (Or.inr ⟨by decide, by decide, rfl⟩) (Nat.le_refl _) HH (Or.inl ⟨rfl, by omega⟩) (fun i hi => pk_un (by omega)) (fun i hi => pk_un (by omega)) ?e5 ?e6 ?e7 ?e8 pk_us pk_us ?t5 ?t6 ?hs ?gX ?gY
  case e5 => exact fun i hi => by rw [pk_un (by omega), pk_un (by omega), pk_un (by omega)]
  case e6 => exact fun i hi => by rw [pk_un (by omega), pk_un (by omega)]
  case e7 => exact fun i s hi hs => pk_un (by omega)
  case e8 => exact fun i s hi hs => ysl_e (by omega) hs (fun w => by omega)
  case t5 => rw [pk_us]; show nI (hc - 1 - 1 + 1) = nI (hc - 2 + 1); rfl
  case t6 => rw [pk_us]; show nI (hc - 2 + 1) = nI (hc - 2 + 1); rfl
  case hs =>
    have e := vr_push (f := f) (g := 2) (ax := a_slots (f * 9 + 4 + (hc - 1 - 1)) - a_slots (f * 9 + 4 + (hc - 1))) (ay := b_fEntry (f * 6 + (hc - 2)) - b_fEntry (f * 6 + (hc - 1))) q21 gv (by decide) q5 (Nat.le_refl h) q23 rfl (by rw [ev, show hc - 1 - 1 = hc - 2 by omega, eu]; exact v_i)
    rw [tk] at e
    rw [show hc - 1 - 1 = hc - 2 by omega]
    exact e
  case gX =>
    intro post J
    refine x_pre f_flowHeight f_latestResult a_typeAbove a_fieldSet a_methodType a_methodName a_codeLength a_bytes a_isStart a_heightAt a_kindsAt a_isWaiting a_flowKinds a_globals a_objectType a_fieldValue a_isMarked a_frameMethod a_frameAt a_frameHeight a_slots g_result g_bad g_high g_refs g_code b_ownField b_starts b_seen b_done b_heights b_local b_sure b_objType b_objField b_marked b_global b_fMethod b_fPc b_fHigh b_fLocal b_fEntry C ?_
    exact br_t (by decide) (br_f (by decide) (br_f (by decide) (ex_calc (nI tc) (nI mc) 1 (-1) f_flowHeight (nI (f + 1)) (nI t) (-1) f_latestResult a_typeAbove a_fieldSet a_methodType a_methodName a_codeLength a_bytes a_isStart a_heightAt a_kindsAt a_isWaiting a_flowKinds a_globals a_objectType a_fieldValue a_isMarked a_frameMethod a_frameAt a_frameHeight a_slots (by omega) q18 (by omega) q5 (br_f (by decide) (br_f (by decide) (br_f (by decide) (br_f (by decide) (br_t (by decide) (nm_e (ex_push (nI tc) (nI mc) 1 (-1) f_flowHeight (nI (f + 1)) (nI t) (-1) f_latestResult a_typeAbove a_fieldSet a_methodType a_methodName a_codeLength a_bytes a_isStart a_heightAt a_kindsAt a_isWaiting a_flowKinds a_globals a_objectType a_fieldValue a_isMarked a_frameMethod a_frameAt _ a_slots (by omega) pk_us (by omega) (x206 (nI tc) (nI mc) 1 (-1) f_flowHeight (nI (f + 1)) (nI t) (-1) f_latestResult a_typeAbove a_fieldSet a_methodType a_methodName a_codeLength a_bytes a_isStart a_heightAt a_kindsAt a_isWaiting a_flowKinds a_globals a_objectType a_fieldValue a_isMarked a_frameMethod a_frameAt _ _ (by omega) q16 J)))))))))))
  case gY =>
    intro post J
    refine y_pre f_flowHeight f_latestResult a_typeAbove a_fieldSet a_methodType a_methodName a_codeLength a_bytes a_isStart a_heightAt a_kindsAt a_isWaiting a_flowKinds a_globals a_objectType a_fieldValue a_isMarked a_frameMethod a_frameAt a_frameHeight a_slots g_result g_bad g_high g_refs g_code b_ownField b_starts b_seen b_done b_heights b_local b_sure b_objType b_objField b_marked b_global b_fMethod b_fPc b_fHigh b_fLocal b_fEntry C (fun b1 hb1 hb2 => ?_)
    rw [if_pos (by omega), if_pos (by omega)]
    exact br_f (by decide) (br_f (by decide) (br_f (by decide) (br_f (by decide) (br_f (by decide) (br_f (by decide) (br_f (by decide) (br_f (by decide) (br_f (by decide) (br_f (by decide) (br_f (by decide) (br_f (by decide) (br_f (by decide) (br_f (by decide) (br_t (by decide) (nm_e (br_f (by decide) (br_f (by decide) (br_f (by decide) (br_f (by decide) (br_f (by decide) (br_f (by decide) (br_f (by decide) (br_f (by decide) (br_f (by decide) (br_f (by decide) (br_f (by decide) (br_f (by decide) (br_t (by decide) (e688p (nI tc) (nI mc) (-1) g_result 1 g_bad g_high g_refs (nI (f + 1)) (nI t) g_code a_typeAbove b_ownField a_methodType a_methodName a_codeLength a_bytes b_starts b_seen b_done b_heights b_local b_sure b_objType b_objField b_marked b_global b_fMethod b_fPc b_fHigh b_fLocal b_fEntry (tk := 2) (by omega) q6 (by decide) q19 (by omega) q5 J)))))))))))))))))))))))))))))
theorem op_6 (f_flowHeight f_latestResult : Int32) (a_typeAbove a_fieldSet a_methodType a_methodName a_codeLength a_bytes a_isStart a_heightAt a_kindsAt a_isWaiting a_flowKinds a_globals a_objectType a_fieldValue a_isMarked a_frameMethod a_frameAt a_frameHeight a_slots : Nat → Int32) (g_result g_bad g_high g_refs g_code : Int32) (b_ownField b_starts : Nat → Int32) (b_seen b_done : Nat → Int64) (b_heights b_local b_sure b_objType b_objField b_marked b_global b_fMethod b_fPc b_fHigh b_fLocal b_fEntry : Nat → Int32) {tc mc h f t m p hc o b nm : Nat} {mF pF hF : Nat → Nat} (C : CT tc mc h f t m p hc o b nm a_typeAbove a_fieldSet b_ownField a_methodName a_codeLength a_bytes a_heightAt a_kindsAt b_sure a_globals a_objectType a_fieldValue b_global b_objType b_objField a_frameMethod a_frameAt a_frameHeight a_slots b_fMethod b_fPc b_fHigh b_fLocal b_fEntry mF pF hF) (eo : o = 6) : SO (64 * t + sp pF (f + 1)) (nI tc, nI mc, 1, -1, f_flowHeight, nI (f + 1), nI t, -1, f_latestResult, a_typeAbove, a_fieldSet, a_methodType, a_methodName, a_codeLength, a_bytes, a_isStart, a_heightAt, a_kindsAt, a_isWaiting, a_flowKinds, a_globals, a_objectType, a_fieldValue, a_isMarked, a_frameMethod, a_frameAt, a_frameHeight, a_slots) (nI tc, nI mc, -1, g_result, 1, g_bad, g_high, g_refs, nI (f + 1), nI t, g_code, a_typeAbove, b_ownField, a_methodType, a_methodName, a_codeLength, a_bytes, b_starts, b_seen, b_done, b_heights, b_local, b_sure, b_objType, b_objField, b_marked, b_global, b_fMethod, b_fPc, b_fHigh, b_fLocal, b_fEntry) := by
  obtain ⟨q1, q2, q3, q4, q5, q6, q7, q8, q9, q10, q11, q12, q13, q14, q15, q16, q17, q18, q19, q20, q21, q22, q23, q24⟩ := ct_F C
  have f6 := C.2.2.2.2.1
  have HH := C.2.2.2.1
  subst eo
  have x1 := q21.1
  have x5 : is_gv 6 = true → hc - is_tk 6 < 5 := q21.2.2.2.2
  have tk : is_tk 6 = 2 := rfl
  have gv : is_gv 6 = true := rfl
  rw [tk] at x1 x5
  have x5 := x5 gv
  have x2 := q21.2.1 (by decide)
  have x3 := q21.2.2.1 rfl
  have ev := v_int (top_v q23 (by omega)) (q22 _ (by omega)) x2
  have eu := v_int (sec_v q23 x1) (q22 _ (by omega)) x3
  refine so_top f_flowHeight f_latestResult a_typeAbove a_fieldSet a_methodType a_methodName a_codeLength a_bytes a_isStart a_heightAt a_kindsAt a_isWaiting a_flowKinds a_globals a_objectType a_fieldValue a_isMarked a_frameMethod a_frameAt a_frameHeight a_slots g_result g_bad g_high g_refs g_code b_ownField b_starts b_seen b_done b_heights b_local b_sure b_objType b_objField b_marked b_global b_fMethod b_fPc b_fHigh b_fLocal b_fEntry (t' := t) (p' := p + 1) (h' := h) (gl' := a_globals) (ot' := a_objectType) (fv' := a_fieldValue) (xm' := a_isMarked) (fa' := upd a_frameAt f (nI (p + 1))) (fh' := upd (upd (upd (a_frameHeight) f (nI (hc - 1))) f (nI (hc - 1 - 1))) f (nI (hc - 1 - 1 + 1))) (sl' := upd a_slots (f * 9 + 4 + (hc - 1 - 1)) (a_slots (f * 9 + 4 + (hc - 1 - 1)) * a_slots (f * 9 + 4 + (hc - 1)))) (yg' := b_global) (yt' := b_objType) (yf' := b_objField) (ym' := b_marked) (yp' := upd b_fPc f (nI (p + 1))) (yh' := upd (upd b_fHigh f (nI (hc - 2))) f (nI (hc - 2 + 1))) (yl' := b_fLocal) (ye' := upd b_fEntry (f * 6 + (hc - 2)) (b_fEntry (f * 6 + (hc - 2)) * b_fEntry (f * 6 + (hc - 1)))) C (Or.inr ⟨by decide, by decide, rfl⟩) (Nat.le_refl _) HH (Or.inl ⟨rfl, by omega⟩) (fun i hi => pk_un (by omega)) (fun i hi => pk_un (by omega)) ?e5 ?e6 ?e7 ?e8 pk_us pk_us ?t5 ?t6 ?hs ?gX ?gY
  case e5 => exact fun i hi => by rw [pk_un (by omega), pk_un (by omega), pk_un (by omega)]
  case e6 => exact fun i hi => by rw [pk_un (by omega), pk_un (by omega)]
  case e7 => exact fun i s hi hs => pk_un (by omega)
  case e8 => exact fun i s hi hs => ysl_e (by omega) hs (fun w => by omega)
  case t5 => rw [pk_us]; show nI (hc - 1 - 1 + 1) = nI (hc - 2 + 1); rfl
  case t6 => rw [pk_us]; show nI (hc - 2 + 1) = nI (hc - 2 + 1); rfl
  case hs =>
    have e := vr_push (f := f) (g := 2) (ax := a_slots (f * 9 + 4 + (hc - 1 - 1)) * a_slots (f * 9 + 4 + (hc - 1))) (ay := b_fEntry (f * 6 + (hc - 2)) * b_fEntry (f * 6 + (hc - 1))) q21 gv (by decide) q5 (Nat.le_refl h) q23 rfl (by rw [ev, show hc - 1 - 1 = hc - 2 by omega, eu]; exact v_i)
    rw [tk] at e
    rw [show hc - 1 - 1 = hc - 2 by omega]
    exact e
  case gX =>
    intro post J
    refine x_pre f_flowHeight f_latestResult a_typeAbove a_fieldSet a_methodType a_methodName a_codeLength a_bytes a_isStart a_heightAt a_kindsAt a_isWaiting a_flowKinds a_globals a_objectType a_fieldValue a_isMarked a_frameMethod a_frameAt a_frameHeight a_slots g_result g_bad g_high g_refs g_code b_ownField b_starts b_seen b_done b_heights b_local b_sure b_objType b_objField b_marked b_global b_fMethod b_fPc b_fHigh b_fLocal b_fEntry C ?_
    exact br_t (by decide) (br_f (by decide) (br_f (by decide) (ex_calc (nI tc) (nI mc) 1 (-1) f_flowHeight (nI (f + 1)) (nI t) (-1) f_latestResult a_typeAbove a_fieldSet a_methodType a_methodName a_codeLength a_bytes a_isStart a_heightAt a_kindsAt a_isWaiting a_flowKinds a_globals a_objectType a_fieldValue a_isMarked a_frameMethod a_frameAt a_frameHeight a_slots (by omega) q18 (by omega) q5 (br_f (by decide) (br_f (by decide) (br_f (by decide) (br_f (by decide) (br_f (by decide) (br_t (by decide) (nm_e (ex_push (nI tc) (nI mc) 1 (-1) f_flowHeight (nI (f + 1)) (nI t) (-1) f_latestResult a_typeAbove a_fieldSet a_methodType a_methodName a_codeLength a_bytes a_isStart a_heightAt a_kindsAt a_isWaiting a_flowKinds a_globals a_objectType a_fieldValue a_isMarked a_frameMethod a_frameAt _ a_slots (by omega) pk_us (by omega) (x206 (nI tc) (nI mc) 1 (-1) f_flowHeight (nI (f + 1)) (nI t) (-1) f_latestResult a_typeAbove a_fieldSet a_methodType a_methodName a_codeLength a_bytes a_isStart a_heightAt a_kindsAt a_isWaiting a_flowKinds a_globals a_objectType a_fieldValue a_isMarked a_frameMethod a_frameAt _ _ (by omega) q16 J))))))))))))
  case gY =>
    intro post J
    refine y_pre f_flowHeight f_latestResult a_typeAbove a_fieldSet a_methodType a_methodName a_codeLength a_bytes a_isStart a_heightAt a_kindsAt a_isWaiting a_flowKinds a_globals a_objectType a_fieldValue a_isMarked a_frameMethod a_frameAt a_frameHeight a_slots g_result g_bad g_high g_refs g_code b_ownField b_starts b_seen b_done b_heights b_local b_sure b_objType b_objField b_marked b_global b_fMethod b_fPc b_fHigh b_fLocal b_fEntry C (fun b1 hb1 hb2 => ?_)
    rw [if_pos (by omega), if_pos (by omega)]
    exact br_f (by decide) (br_f (by decide) (br_f (by decide) (br_f (by decide) (br_f (by decide) (br_f (by decide) (br_f (by decide) (br_f (by decide) (br_f (by decide) (br_f (by decide) (br_f (by decide) (br_f (by decide) (br_f (by decide) (br_f (by decide) (br_f (by decide) (br_t (by decide) (nm_e (br_f (by decide) (br_f (by decide) (br_f (by decide) (br_f (by decide) (br_f (by decide) (br_f (by decide) (br_f (by decide) (br_f (by decide) (br_f (by decide) (br_f (by decide) (br_f (by decide) (br_t (by decide) (e688p (nI tc) (nI mc) (-1) g_result 1 g_bad g_high g_refs (nI (f + 1)) (nI t) g_code a_typeAbove b_ownField a_methodType a_methodName a_codeLength a_bytes b_starts b_seen b_done b_heights b_local b_sure b_objType b_objField b_marked b_global b_fMethod b_fPc b_fHigh b_fLocal b_fEntry (tk := 2) (by omega) q6 (by decide) q19 (by omega) q5 J)))))))))))))))))))))))))))))
theorem op_8 (f_flowHeight f_latestResult : Int32) (a_typeAbove a_fieldSet a_methodType a_methodName a_codeLength a_bytes a_isStart a_heightAt a_kindsAt a_isWaiting a_flowKinds a_globals a_objectType a_fieldValue a_isMarked a_frameMethod a_frameAt a_frameHeight a_slots : Nat → Int32) (g_result g_bad g_high g_refs g_code : Int32) (b_ownField b_starts : Nat → Int32) (b_seen b_done : Nat → Int64) (b_heights b_local b_sure b_objType b_objField b_marked b_global b_fMethod b_fPc b_fHigh b_fLocal b_fEntry : Nat → Int32) {tc mc h f t m p hc o b nm : Nat} {mF pF hF : Nat → Nat} (C : CT tc mc h f t m p hc o b nm a_typeAbove a_fieldSet b_ownField a_methodName a_codeLength a_bytes a_heightAt a_kindsAt b_sure a_globals a_objectType a_fieldValue b_global b_objType b_objField a_frameMethod a_frameAt a_frameHeight a_slots b_fMethod b_fPc b_fHigh b_fLocal b_fEntry mF pF hF) (eo : o = 8) : SO (64 * t + sp pF (f + 1)) (nI tc, nI mc, 1, -1, f_flowHeight, nI (f + 1), nI t, -1, f_latestResult, a_typeAbove, a_fieldSet, a_methodType, a_methodName, a_codeLength, a_bytes, a_isStart, a_heightAt, a_kindsAt, a_isWaiting, a_flowKinds, a_globals, a_objectType, a_fieldValue, a_isMarked, a_frameMethod, a_frameAt, a_frameHeight, a_slots) (nI tc, nI mc, -1, g_result, 1, g_bad, g_high, g_refs, nI (f + 1), nI t, g_code, a_typeAbove, b_ownField, a_methodType, a_methodName, a_codeLength, a_bytes, b_starts, b_seen, b_done, b_heights, b_local, b_sure, b_objType, b_objField, b_marked, b_global, b_fMethod, b_fPc, b_fHigh, b_fLocal, b_fEntry) := by
  obtain ⟨q1, q2, q3, q4, q5, q6, q7, q8, q9, q10, q11, q12, q13, q14, q15, q16, q17, q18, q19, q20, q21, q22, q23, q24⟩ := ct_F C
  have f6 := C.2.2.2.2.1
  have HH := C.2.2.2.1
  subst eo
  have x1 := q21.1
  have x5 : is_gv 8 = true → hc - is_tk 8 < 5 := q21.2.2.2.2
  have tk : is_tk 8 = 2 := rfl
  have gv : is_gv 8 = true := rfl
  rw [tk] at x1 x5
  have x5 := x5 gv
  have x2 := q21.2.1 (by decide)
  have x3 := q21.2.2.1 rfl
  have ev := v_int (top_v q23 (by omega)) (q22 _ (by omega)) x2
  have eu := v_int (sec_v q23 x1) (q22 _ (by omega)) x3
  rw [show hc - 2 = hc - 1 - 1 by omega] at eu
  refine so_top f_flowHeight f_latestResult a_typeAbove a_fieldSet a_methodType a_methodName a_codeLength a_bytes a_isStart a_heightAt a_kindsAt a_isWaiting a_flowKinds a_globals a_objectType a_fieldValue a_isMarked a_frameMethod a_frameAt a_frameHeight a_slots g_result g_bad g_high g_refs g_code b_ownField b_starts b_seen b_done b_heights b_local b_sure b_objType b_objField b_marked b_global b_fMethod b_fPc b_fHigh b_fLocal b_fEntry (t' := t) (p' := p + 1) (h' := h) (gl' := a_globals) (ot' := a_objectType) (fv' := a_fieldValue) (xm' := a_isMarked) (fa' := upd a_frameAt f (nI (p + 1))) (fh' := upd (upd (upd (a_frameHeight) f (nI (hc - 1))) f (nI (hc - 1 - 1))) f (nI (hc - 1 - 1 + 1))) (sl' := upd a_slots (f * 9 + 4 + (hc - 1 - 1)) (if a_slots (f * 9 + 4 + (hc - 1)) ≤ a_slots (f * 9 + 4 + (hc - 1 - 1)) then 0 else 1)) (yg' := b_global) (yt' := b_objType) (yf' := b_objField) (ym' := b_marked) (yp' := upd b_fPc f (nI (p + 1))) (yh' := upd (upd b_fHigh f (nI (hc - 2))) f (nI (hc - 2 + 1))) (yl' := b_fLocal) (ye' := upd b_fEntry (f * 6 + (hc - 2)) (if b_fEntry (f * 6 + (hc - 1)) ≤ b_fEntry (f * 6 + (hc - 2)) then 0 else 1)) C (Or.inr ⟨by decide, by decide, rfl⟩) (Nat.le_refl _) HH (Or.inl ⟨rfl, by omega⟩) (fun i hi => pk_un (by omega)) (fun i hi => pk_un (by omega)) ?e5 ?e6 ?e7 ?e8 pk_us pk_us ?t5 ?t6 ?hs ?gX ?gY
  case e5 => exact fun i hi => by rw [pk_un (by omega), pk_un (by omega), pk_un (by omega)]
  case e6 => exact fun i hi => by rw [pk_un (by omega), pk_un (by omega)]
  case e7 => exact fun i s hi hs => pk_un (by omega)
  case e8 => exact fun i s hi hs => ysl_e (by omega) hs (fun w => by omega)
  case t5 => rw [pk_us]; show nI (hc - 1 - 1 + 1) = nI (hc - 2 + 1); rfl
  case t6 => rw [pk_us]; show nI (hc - 2 + 1) = nI (hc - 2 + 1); rfl
  case hs =>
    have e := vr_push (f := f) (g := 2) (ax := if a_slots (f * 9 + 4 + (hc - 1)) ≤ a_slots (f * 9 + 4 + (hc - 1 - 1)) then 0 else 1) (ay := if b_fEntry (f * 6 + (hc - 1)) ≤ b_fEntry (f * 6 + (hc - 2)) then 0 else 1) q21 gv (by decide) q5 (Nat.le_refl h) q23 rfl (by rw [ev, eu, show hc - 1 - 1 = hc - 2 by omega]; exact v_i)
    rw [tk] at e
    rw [show hc - 1 - 1 = hc - 2 by omega]
    exact e
  case gX =>
    intro post J
    refine x_pre f_flowHeight f_latestResult a_typeAbove a_fieldSet a_methodType a_methodName a_codeLength a_bytes a_isStart a_heightAt a_kindsAt a_isWaiting a_flowKinds a_globals a_objectType a_fieldValue a_isMarked a_frameMethod a_frameAt a_frameHeight a_slots g_result g_bad g_high g_refs g_code b_ownField b_starts b_seen b_done b_heights b_local b_sure b_objType b_objField b_marked b_global b_fMethod b_fPc b_fHigh b_fLocal b_fEntry C ?_
    by_cases le : a_slots (f * 9 + 4 + (hc - 1)) ≤ a_slots (f * 9 + 4 + (hc - 1 - 1))
    · rw [if_pos le] at J
      refine br_t (by decide) (br_f (by decide) (br_f (by decide) (ex_calc (nI tc) (nI mc) 1 (-1) f_flowHeight (nI (f + 1)) (nI t) (-1) f_latestResult a_typeAbove a_fieldSet a_methodType a_methodName a_codeLength a_bytes a_isStart a_heightAt a_kindsAt a_isWaiting a_flowKinds a_globals a_objectType a_fieldValue a_isMarked a_frameMethod a_frameAt a_frameHeight a_slots (by omega) q18 (by omega) q5 (br_f (by decide) (br_f (by decide) (br_f (by decide) (br_f (by decide) (br_f (by decide) (br_f (by decide) (br_f (by decide) (br_t (by decide) (?_))))))))))))
      exact br_t le (xc111 (nI tc) (nI mc) 1 (-1) f_flowHeight (nI (f + 1)) (nI t) (-1) f_latestResult a_typeAbove a_fieldSet a_methodType a_methodName a_codeLength a_bytes a_isStart a_heightAt a_kindsAt a_isWaiting a_flowKinds a_globals a_objectType a_fieldValue a_isMarked a_frameMethod a_frameAt (upd (upd a_frameHeight f (nI (hc - 1))) f (nI (hc - 1 - 1))) a_slots (ex_push (nI tc) (nI mc) 1 (-1) f_flowHeight (nI (f + 1)) (nI t) (-1) f_latestResult a_typeAbove a_fieldSet a_methodType a_methodName a_codeLength a_bytes a_isStart a_heightAt a_kindsAt a_isWaiting a_flowKinds a_globals a_objectType a_fieldValue a_isMarked a_frameMethod a_frameAt _ a_slots (by omega) pk_us (by omega) (x206 (nI tc) (nI mc) 1 (-1) f_flowHeight (nI (f + 1)) (nI t) (-1) f_latestResult a_typeAbove a_fieldSet a_methodType a_methodName a_codeLength a_bytes a_isStart a_heightAt a_kindsAt a_isWaiting a_flowKinds a_globals a_objectType a_fieldValue a_isMarked a_frameMethod a_frameAt _ _ (by omega) q16 J)))
    · rw [if_neg le] at J
      refine br_t (by decide) (br_f (by decide) (br_f (by decide) (ex_calc (nI tc) (nI mc) 1 (-1) f_flowHeight (nI (f + 1)) (nI t) (-1) f_latestResult a_typeAbove a_fieldSet a_methodType a_methodName a_codeLength a_bytes a_isStart a_heightAt a_kindsAt a_isWaiting a_flowKinds a_globals a_objectType a_fieldValue a_isMarked a_frameMethod a_frameAt a_frameHeight a_slots (by omega) q18 (by omega) q5 (br_f (by decide) (br_f (by decide) (br_f (by decide) (br_f (by decide) (br_f (by decide) (br_f (by decide) (br_f (by decide) (br_t (by decide) (?_))))))))))))
      exact br_f le (xc111 (nI tc) (nI mc) 1 (-1) f_flowHeight (nI (f + 1)) (nI t) (-1) f_latestResult a_typeAbove a_fieldSet a_methodType a_methodName a_codeLength a_bytes a_isStart a_heightAt a_kindsAt a_isWaiting a_flowKinds a_globals a_objectType a_fieldValue a_isMarked a_frameMethod a_frameAt (upd (upd a_frameHeight f (nI (hc - 1))) f (nI (hc - 1 - 1))) a_slots (ex_push (nI tc) (nI mc) 1 (-1) f_flowHeight (nI (f + 1)) (nI t) (-1) f_latestResult a_typeAbove a_fieldSet a_methodType a_methodName a_codeLength a_bytes a_isStart a_heightAt a_kindsAt a_isWaiting a_flowKinds a_globals a_objectType a_fieldValue a_isMarked a_frameMethod a_frameAt _ a_slots (by omega) pk_us (by omega) (x206 (nI tc) (nI mc) 1 (-1) f_flowHeight (nI (f + 1)) (nI t) (-1) f_latestResult a_typeAbove a_fieldSet a_methodType a_methodName a_codeLength a_bytes a_isStart a_heightAt a_kindsAt a_isWaiting a_flowKinds a_globals a_objectType a_fieldValue a_isMarked a_frameMethod a_frameAt _ _ (by omega) q16 J)))
  case gY =>
    intro post J
    refine y_pre f_flowHeight f_latestResult a_typeAbove a_fieldSet a_methodType a_methodName a_codeLength a_bytes a_isStart a_heightAt a_kindsAt a_isWaiting a_flowKinds a_globals a_objectType a_fieldValue a_isMarked a_frameMethod a_frameAt a_frameHeight a_slots g_result g_bad g_high g_refs g_code b_ownField b_starts b_seen b_done b_heights b_local b_sure b_objType b_objField b_marked b_global b_fMethod b_fPc b_fHigh b_fLocal b_fEntry C (fun b1 hb1 hb2 => ?_)
    rw [if_pos (by omega), if_pos (by omega)]
    by_cases le : b_fEntry (f * 6 + (hc - 1)) ≤ b_fEntry (f * 6 + (hc - 2))
    · rw [if_pos le] at J
      exact br_f (by decide) (br_f (by decide) (br_f (by decide) (br_f (by decide) (br_f (by decide) (br_f (by decide) (br_f (by decide) (br_f (by decide) (br_f (by decide) (br_f (by decide) (br_f (by decide) (br_f (by decide) (br_f (by decide) (br_f (by decide) (br_f (by decide) (br_f (by decide) (br_f (by decide) (br_t (by decide) (br_t le (br_f (by decide) (br_f (by decide) (br_f (by decide) (br_f (by decide) (br_f (by decide) (br_f (by decide) (br_f (by decide) (br_f (by decide) (br_f (by decide) (br_t (by decide) (e688p (nI tc) (nI mc) (-1) g_result 1 g_bad g_high g_refs (nI (f + 1)) (nI t) g_code a_typeAbove b_ownField a_methodType a_methodName a_codeLength a_bytes b_starts b_seen b_done b_heights b_local b_sure b_objType b_objField b_marked b_global b_fMethod b_fPc b_fHigh b_fLocal b_fEntry (tk := 2) (by omega) q6 (by decide) q19 (by omega) q5 J)))))))))))))))))))))))))))))
    · rw [if_neg le] at J
      exact br_f (by decide) (br_f (by decide) (br_f (by decide) (br_f (by decide) (br_f (by decide) (br_f (by decide) (br_f (by decide) (br_f (by decide) (br_f (by decide) (br_f (by decide) (br_f (by decide) (br_f (by decide) (br_f (by decide) (br_f (by decide) (br_f (by decide) (br_f (by decide) (br_f (by decide) (br_t (by decide) (br_f le (br_f (by decide) (br_f (by decide) (br_f (by decide) (br_f (by decide) (br_f (by decide) (br_f (by decide) (br_f (by decide) (br_f (by decide) (br_f (by decide) (br_t (by decide) (e688p (nI tc) (nI mc) (-1) g_result 1 g_bad g_high g_refs (nI (f + 1)) (nI t) g_code a_typeAbove b_ownField a_methodType a_methodName a_codeLength a_bytes b_starts b_seen b_done b_heights b_local b_sure b_objType b_objField b_marked b_global b_fMethod b_fPc b_fHigh b_fLocal b_fEntry (tk := 2) (by omega) q6 (by decide) q19 (by omega) q5 J)))))))))))))))))))))))))))))
theorem op_9 (f_flowHeight f_latestResult : Int32) (a_typeAbove a_fieldSet a_methodType a_methodName a_codeLength a_bytes a_isStart a_heightAt a_kindsAt a_isWaiting a_flowKinds a_globals a_objectType a_fieldValue a_isMarked a_frameMethod a_frameAt a_frameHeight a_slots : Nat → Int32) (g_result g_bad g_high g_refs g_code : Int32) (b_ownField b_starts : Nat → Int32) (b_seen b_done : Nat → Int64) (b_heights b_local b_sure b_objType b_objField b_marked b_global b_fMethod b_fPc b_fHigh b_fLocal b_fEntry : Nat → Int32) {tc mc h f t m p hc o b nm : Nat} {mF pF hF : Nat → Nat} (C : CT tc mc h f t m p hc o b nm a_typeAbove a_fieldSet b_ownField a_methodName a_codeLength a_bytes a_heightAt a_kindsAt b_sure a_globals a_objectType a_fieldValue b_global b_objType b_objField a_frameMethod a_frameAt a_frameHeight a_slots b_fMethod b_fPc b_fHigh b_fLocal b_fEntry mF pF hF) (eo : o = 9) : SO (64 * t + sp pF (f + 1)) (nI tc, nI mc, 1, -1, f_flowHeight, nI (f + 1), nI t, -1, f_latestResult, a_typeAbove, a_fieldSet, a_methodType, a_methodName, a_codeLength, a_bytes, a_isStart, a_heightAt, a_kindsAt, a_isWaiting, a_flowKinds, a_globals, a_objectType, a_fieldValue, a_isMarked, a_frameMethod, a_frameAt, a_frameHeight, a_slots) (nI tc, nI mc, -1, g_result, 1, g_bad, g_high, g_refs, nI (f + 1), nI t, g_code, a_typeAbove, b_ownField, a_methodType, a_methodName, a_codeLength, a_bytes, b_starts, b_seen, b_done, b_heights, b_local, b_sure, b_objType, b_objField, b_marked, b_global, b_fMethod, b_fPc, b_fHigh, b_fLocal, b_fEntry) := by
  obtain ⟨q1, q2, q3, q4, q5, q6, q7, q8, q9, q10, q11, q12, q13, q14, q15, q16, q17, q18, q19, q20, q21, q22, q23, q24⟩ := ct_F C
  have f6 := C.2.2.2.2.1
  have HH := C.2.2.2.1
  subst eo
  have x1 := q21.1
  have x5 : is_gv 9 = true → hc - is_tk 9 < 5 := q21.2.2.2.2
  have tk : is_tk 9 = 2 := rfl
  have gv : is_gv 9 = true := rfl
  rw [tk] at x1 x5
  have x5 := x5 gv
  have x2 := q21.2.1 (by decide)
  have x3 := q21.2.2.1 rfl
  have h10 := HH.1
  obtain ⟨rv, hrv, ev1, ev2⟩ := v_ref (top_v q23 (by omega)) (q22 _ (by omega)) x2
  obtain ⟨ru, hru, eu1, eu2⟩ := v_ref (sec_v q23 x1) (q22 _ (by omega)) x3
  rw [show hc - 2 = hc - 1 - 1 by omega] at eu1
  refine so_top f_flowHeight f_latestResult a_typeAbove a_fieldSet a_methodType a_methodName a_codeLength a_bytes a_isStart a_heightAt a_kindsAt a_isWaiting a_flowKinds a_globals a_objectType a_fieldValue a_isMarked a_frameMethod a_frameAt a_frameHeight a_slots g_result g_bad g_high g_refs g_code b_ownField b_starts b_seen b_done b_heights b_local b_sure b_objType b_objField b_marked b_global b_fMethod b_fPc b_fHigh b_fLocal b_fEntry (t' := t) (p' := p + 1) (h' := h) (gl' := a_globals) (ot' := a_objectType) (fv' := a_fieldValue) (xm' := a_isMarked) (fa' := upd a_frameAt f (nI (p + 1))) (fh' := upd (upd (upd (a_frameHeight) f (nI (hc - 1))) f (nI (hc - 1 - 1))) f (nI (hc - 1 - 1 + 1))) (sl' := upd a_slots (f * 9 + 4 + (hc - 1 - 1)) (if ru = rv then 1 else 0)) (yg' := b_global) (yt' := b_objType) (yf' := b_objField) (ym' := b_marked) (yp' := upd b_fPc f (nI (p + 1))) (yh' := upd (upd b_fHigh f (nI (hc - 2))) f (nI (hc - 2 + 1))) (yl' := b_fLocal) (ye' := upd b_fEntry (f * 6 + (hc - 2)) (if ru = rv then 1 else 0)) C (Or.inr ⟨by decide, by decide, rfl⟩) (Nat.le_refl _) HH (Or.inl ⟨rfl, by omega⟩) (fun i hi => pk_un (by omega)) (fun i hi => pk_un (by omega)) ?e5 ?e6 ?e7 ?e8 pk_us pk_us ?t5 ?t6 ?hs ?gX ?gY
  case e5 => exact fun i hi => by rw [pk_un (by omega), pk_un (by omega), pk_un (by omega)]
  case e6 => exact fun i hi => by rw [pk_un (by omega), pk_un (by omega)]
  case e7 => exact fun i s hi hs => pk_un (by omega)
  case e8 => exact fun i s hi hs => ysl_e (by omega) hs (fun w => by omega)
  case t5 => rw [pk_us]; show nI (hc - 1 - 1 + 1) = nI (hc - 2 + 1); rfl
  case t6 => rw [pk_us]; show nI (hc - 2 + 1) = nI (hc - 2 + 1); rfl
  case hs =>
    have e := vr_push (f := f) (g := 2) (ax := if ru = rv then 1 else 0) (ay := if ru = rv then 1 else 0) q21 gv (by decide) q5 (Nat.le_refl h) q23 rfl v_i
    rw [tk] at e
    rw [show hc - 1 - 1 = hc - 2 by omega]
    exact e
  case gX =>
    intro post J
    refine x_pre f_flowHeight f_latestResult a_typeAbove a_fieldSet a_methodType a_methodName a_codeLength a_bytes a_isStart a_heightAt a_kindsAt a_isWaiting a_flowKinds a_globals a_objectType a_fieldValue a_isMarked a_frameMethod a_frameAt a_frameHeight a_slots g_result g_bad g_high g_refs g_code b_ownField b_starts b_seen b_done b_heights b_local b_sure b_objType b_objField b_marked b_global b_fMethod b_fPc b_fHigh b_fLocal b_fEntry C ?_
    by_cases le : ru = rv
    · rw [if_pos le] at J
      refine br_t (by decide) (br_f (by decide) (br_f (by decide) (ex_calc (nI tc) (nI mc) 1 (-1) f_flowHeight (nI (f + 1)) (nI t) (-1) f_latestResult a_typeAbove a_fieldSet a_methodType a_methodName a_codeLength a_bytes a_isStart a_heightAt a_kindsAt a_isWaiting a_flowKinds a_globals a_objectType a_fieldValue a_isMarked a_frameMethod a_frameAt a_frameHeight a_slots (by omega) q18 (by omega) q5 (br_f (by decide) (br_f (by decide) (br_t (by decide) (?_)))))))
      exact br_t (by rw [ev1, eu1, le]) (xc127 (nI tc) (nI mc) 1 (-1) f_flowHeight (nI (f + 1)) (nI t) (-1) f_latestResult a_typeAbove a_fieldSet a_methodType a_methodName a_codeLength a_bytes a_isStart a_heightAt a_kindsAt a_isWaiting a_flowKinds a_globals a_objectType a_fieldValue a_isMarked a_frameMethod a_frameAt (upd (upd a_frameHeight f (nI (hc - 1))) f (nI (hc - 1 - 1))) a_slots (ex_push (nI tc) (nI mc) 1 (-1) f_flowHeight (nI (f + 1)) (nI t) (-1) f_latestResult a_typeAbove a_fieldSet a_methodType a_methodName a_codeLength a_bytes a_isStart a_heightAt a_kindsAt a_isWaiting a_flowKinds a_globals a_objectType a_fieldValue a_isMarked a_frameMethod a_frameAt _ a_slots (by omega) pk_us (by omega) (x206 (nI tc) (nI mc) 1 (-1) f_flowHeight (nI (f + 1)) (nI t) (-1) f_latestResult a_typeAbove a_fieldSet a_methodType a_methodName a_codeLength a_bytes a_isStart a_heightAt a_kindsAt a_isWaiting a_flowKinds a_globals a_objectType a_fieldValue a_isMarked a_frameMethod a_frameAt _ _ (by omega) q16 J)))
    · rw [if_neg le] at J
      refine br_t (by decide) (br_f (by decide) (br_f (by decide) (ex_calc (nI tc) (nI mc) 1 (-1) f_flowHeight (nI (f + 1)) (nI t) (-1) f_latestResult a_typeAbove a_fieldSet a_methodType a_methodName a_codeLength a_bytes a_isStart a_heightAt a_kindsAt a_isWaiting a_flowKinds a_globals a_objectType a_fieldValue a_isMarked a_frameMethod a_frameAt a_frameHeight a_slots (by omega) q18 (by omega) q5 (br_f (by decide) (br_f (by decide) (br_t (by decide) (?_)))))))
      exact br_f (fun z => le (gp_inj (by omega) (by omega) (by rw [← eu1, ← ev1]; exact z))) (xc127 (nI tc) (nI mc) 1 (-1) f_flowHeight (nI (f + 1)) (nI t) (-1) f_latestResult a_typeAbove a_fieldSet a_methodType a_methodName a_codeLength a_bytes a_isStart a_heightAt a_kindsAt a_isWaiting a_flowKinds a_globals a_objectType a_fieldValue a_isMarked a_frameMethod a_frameAt (upd (upd a_frameHeight f (nI (hc - 1))) f (nI (hc - 1 - 1))) a_slots (ex_push (nI tc) (nI mc) 1 (-1) f_flowHeight (nI (f + 1)) (nI t) (-1) f_latestResult a_typeAbove a_fieldSet a_methodType a_methodName a_codeLength a_bytes a_isStart a_heightAt a_kindsAt a_isWaiting a_flowKinds a_globals a_objectType a_fieldValue a_isMarked a_frameMethod a_frameAt _ a_slots (by omega) pk_us (by omega) (x206 (nI tc) (nI mc) 1 (-1) f_flowHeight (nI (f + 1)) (nI t) (-1) f_latestResult a_typeAbove a_fieldSet a_methodType a_methodName a_codeLength a_bytes a_isStart a_heightAt a_kindsAt a_isWaiting a_flowKinds a_globals a_objectType a_fieldValue a_isMarked a_frameMethod a_frameAt _ _ (by omega) q16 J)))
  case gY =>
    intro post J
    refine y_pre f_flowHeight f_latestResult a_typeAbove a_fieldSet a_methodType a_methodName a_codeLength a_bytes a_isStart a_heightAt a_kindsAt a_isWaiting a_flowKinds a_globals a_objectType a_fieldValue a_isMarked a_frameMethod a_frameAt a_frameHeight a_slots g_result g_bad g_high g_refs g_code b_ownField b_starts b_seen b_done b_heights b_local b_sure b_objType b_objField b_marked b_global b_fMethod b_fPc b_fHigh b_fLocal b_fEntry C (fun b1 hb1 hb2 => ?_)
    rw [if_pos (by omega), if_pos (by omega)]
    by_cases le : ru = rv
    · rw [if_pos le] at J
      exact br_f (by decide) (br_f (by decide) (br_f (by decide) (br_f (by decide) (br_f (by decide) (br_f (by decide) (br_f (by decide) (br_f (by decide) (br_f (by decide) (br_f (by decide) (br_f (by decide) (br_f (by decide) (br_f (by decide) (br_f (by decide) (br_f (by decide) (br_f (by decide) (br_f (by decide) (br_f (by decide) (br_t (by decide) (br_t (by rw [ev2, eu2, le]) (br_f (by decide) (br_f (by decide) (br_f (by decide) (br_f (by decide) (br_f (by decide) (br_f (by decide) (br_f (by decide) (br_f (by decide) (br_t (by decide) (e688p (nI tc) (nI mc) (-1) g_result 1 g_bad g_high g_refs (nI (f + 1)) (nI t) g_code a_typeAbove b_ownField a_methodType a_methodName a_codeLength a_bytes b_starts b_seen b_done b_heights b_local b_sure b_objType b_objField b_marked b_global b_fMethod b_fPc b_fHigh b_fLocal b_fEntry (tk := 2) (by omega) q6 (by decide) q19 (by omega) q5 J)))))))))))))))))))))))))))))
    · rw [if_neg le] at J
      exact br_f (by decide) (br_f (by decide) (br_f (by decide) (br_f (by decide) (br_f (by decide) (br_f (by decide) (br_f (by decide) (br_f (by decide) (br_f (by decide) (br_f (by decide) (br_f (by decide) (br_f (by decide) (br_f (by decide) (br_f (by decide) (br_f (by decide) (br_f (by decide) (br_f (by decide) (br_f (by decide) (br_t (by decide) (br_f (fun z => le ((yR_inj (by omega) (by omega)).mp (by rw [← eu2, ← ev2]; exact z))) (br_f (by decide) (br_f (by decide) (br_f (by decide) (br_f (by decide) (br_f (by decide) (br_f (by decide) (br_f (by decide) (br_f (by decide) (br_t (by decide) (e688p (nI tc) (nI mc) (-1) g_result 1 g_bad g_high g_refs (nI (f + 1)) (nI t) g_code a_typeAbove b_ownField a_methodType a_methodName a_codeLength a_bytes b_starts b_seen b_done b_heights b_local b_sure b_objType b_objField b_marked b_global b_fMethod b_fPc b_fHigh b_fLocal b_fEntry (tk := 2) (by omega) q6 (by decide) q19 (by omega) q5 J)))))))))))))))))))))))))))))
theorem op_1 (f_flowHeight f_latestResult : Int32) (a_typeAbove a_fieldSet a_methodType a_methodName a_codeLength a_bytes a_isStart a_heightAt a_kindsAt a_isWaiting a_flowKinds a_globals a_objectType a_fieldValue a_isMarked a_frameMethod a_frameAt a_frameHeight a_slots : Nat → Int32) (g_result g_bad g_high g_refs g_code : Int32) (b_ownField b_starts : Nat → Int32) (b_seen b_done : Nat → Int64) (b_heights b_local b_sure b_objType b_objField b_marked b_global b_fMethod b_fPc b_fHigh b_fLocal b_fEntry : Nat → Int32) {tc mc h f t m p hc o b nm : Nat} {mF pF hF : Nat → Nat} (C : CT tc mc h f t m p hc o b nm a_typeAbove a_fieldSet b_ownField a_methodName a_codeLength a_bytes a_heightAt a_kindsAt b_sure a_globals a_objectType a_fieldValue b_global b_objType b_objField a_frameMethod a_frameAt a_frameHeight a_slots b_fMethod b_fPc b_fHigh b_fLocal b_fEntry mF pF hF) (eo : o = 1) : SO (64 * t + sp pF (f + 1)) (nI tc, nI mc, 1, -1, f_flowHeight, nI (f + 1), nI t, -1, f_latestResult, a_typeAbove, a_fieldSet, a_methodType, a_methodName, a_codeLength, a_bytes, a_isStart, a_heightAt, a_kindsAt, a_isWaiting, a_flowKinds, a_globals, a_objectType, a_fieldValue, a_isMarked, a_frameMethod, a_frameAt, a_frameHeight, a_slots) (nI tc, nI mc, -1, g_result, 1, g_bad, g_high, g_refs, nI (f + 1), nI t, g_code, a_typeAbove, b_ownField, a_methodType, a_methodName, a_codeLength, a_bytes, b_starts, b_seen, b_done, b_heights, b_local, b_sure, b_objType, b_objField, b_marked, b_global, b_fMethod, b_fPc, b_fHigh, b_fLocal, b_fEntry) := by
  obtain ⟨q1, q2, q3, q4, q5, q6, q7, q8, q9, q10, q11, q12, q13, q14, q15, q16, q17, q18, q19, q20, q21, q22, q23, q24⟩ := ct_F C
  have f6 := C.2.2.2.2.1
  have HH := C.2.2.2.1
  subst eo
  have x1 := q21.1
  have x5 : is_gv 1 = true → hc - is_tk 1 < 5 := q21.2.2.2.2
  have tk : is_tk 1 = 0 := rfl
  have gv : is_gv 1 = true := rfl
  rw [tk] at x1 x5
  have x5 := x5 gv
  have hb4 : b < 4 := (q12 rfl).2.1 (Or.inl rfl)
  refine so_top f_flowHeight f_latestResult a_typeAbove a_fieldSet a_methodType a_methodName a_codeLength a_bytes a_isStart a_heightAt a_kindsAt a_isWaiting a_flowKinds a_globals a_objectType a_fieldValue a_isMarked a_frameMethod a_frameAt a_frameHeight a_slots g_result g_bad g_high g_refs g_code b_ownField b_starts b_seen b_done b_heights b_local b_sure b_objType b_objField b_marked b_global b_fMethod b_fPc b_fHigh b_fLocal b_fEntry (t' := t) (p' := p + 2) (h' := h) (gl' := a_globals) (ot' := a_objectType) (fv' := a_fieldValue) (xm' := a_isMarked) (fa' := upd a_frameAt f (nI (p + 2))) (fh' := upd (a_frameHeight) f (nI (hc + 1))) (sl' := upd a_slots (f * 9 + 4 + (hc)) (a_slots (f * 9 + b))) (yg' := b_global) (yt' := b_objType) (yf' := b_objField) (ym' := b_marked) (yp' := upd b_fPc f (nI (p + 2))) (yh' := upd (upd b_fHigh f (nI (hc - 0))) f (nI (hc - 0 + 1))) (yl' := b_fLocal) (ye' := upd b_fEntry (f * 6 + (hc - 0)) (b_fLocal (f * 4 + b))) C (Or.inr ⟨by decide, by decide, rfl⟩) (Nat.le_refl _) HH (Or.inl ⟨rfl, by omega⟩) (fun i hi => pk_un (by omega)) (fun i hi => pk_un (by omega)) ?e5 ?e6 ?e7 ?e8 pk_us pk_us ?t5 ?t6 ?hs ?gX ?gY
  case e5 => exact fun i hi => by rw [pk_un (by omega)]
  case e6 => exact fun i hi => by rw [pk_un (by omega), pk_un (by omega)]
  case e7 => exact fun i s hi hs => pk_un (by omega)
  case e8 => exact fun i s hi hs => ysl_e (by omega) hs (fun w => by omega)
  case t5 => rw [pk_us]; show nI (hc + 1) = nI (hc - 0 + 1); rfl
  case t6 => rw [pk_us]; show nI (hc - 0 + 1) = nI (hc - 0 + 1); rfl
  case hs =>
    have e := vr_push (f := f) (g := kk m a_kindsAt p b) (ax := a_slots (f * 9 + b)) (ay := b_fLocal (f * 4 + b)) q21 gv (by decide) q5 (Nat.le_refl h) q23 (if_pos rfl) (by have := q23 b (by omega); rw [ysl_0 hb4] at this; exact this)
    rw [tk] at e
    rw [Nat.sub_zero] at e ⊢
    exact e
  case gX =>
    intro post J
    refine x_pre f_flowHeight f_latestResult a_typeAbove a_fieldSet a_methodType a_methodName a_codeLength a_bytes a_isStart a_heightAt a_kindsAt a_isWaiting a_flowKinds a_globals a_objectType a_fieldValue a_isMarked a_frameMethod a_frameAt a_frameHeight a_slots g_result g_bad g_high g_refs g_code b_ownField b_starts b_seen b_done b_heights b_local b_sure b_objType b_objField b_marked b_global b_fMethod b_fPc b_fHigh b_fLocal b_fEntry C ?_
    show wX_step_55 post (nI f) (nI 1) (nI 2) (nI b) (nI tc) (nI mc) 1 (-1) f_flowHeight (nI (f + 1)) (nI t) (-1) f_latestResult a_typeAbove a_fieldSet a_methodType a_methodName a_codeLength a_bytes a_isStart a_heightAt a_kindsAt a_isWaiting a_flowKinds a_globals a_objectType a_fieldValue a_isMarked a_frameMethod a_frameAt a_frameHeight a_slots
    refine br_t (by decide) (br_t (by decide) (br_f (by decide) (br_f (by decide) (br_f (by decide) (br_t (by decide) (?_))))))
    rw [show (nI f * 9) + nI b = nI (f * 9 + b) by simp (disch := omega) only [gm_ml, nI_add], nI_clamp (by omega)]
    exact ⟨vp_in_nI (by omega) (by omega), ex_push (nI tc) (nI mc) 1 (-1) f_flowHeight (nI (f + 1)) (nI t) (-1) f_latestResult a_typeAbove a_fieldSet a_methodType a_methodName a_codeLength a_bytes a_isStart a_heightAt a_kindsAt a_isWaiting a_flowKinds a_globals a_objectType a_fieldValue a_isMarked a_frameMethod a_frameAt a_frameHeight a_slots (by omega) q18 (by omega) (x206 (nI tc) (nI mc) 1 (-1) f_flowHeight (nI (f + 1)) (nI t) (-1) f_latestResult a_typeAbove a_fieldSet a_methodType a_methodName a_codeLength a_bytes a_isStart a_heightAt a_kindsAt a_isWaiting a_flowKinds a_globals a_objectType a_fieldValue a_isMarked a_frameMethod a_frameAt _ _ (by omega) q16 J)⟩
  case gY =>
    intro post J
    refine y_pre f_flowHeight f_latestResult a_typeAbove a_fieldSet a_methodType a_methodName a_codeLength a_bytes a_isStart a_heightAt a_kindsAt a_isWaiting a_flowKinds a_globals a_objectType a_fieldValue a_isMarked a_frameMethod a_frameAt a_frameHeight a_slots g_result g_bad g_high g_refs g_code b_ownField b_starts b_seen b_done b_heights b_local b_sure b_objType b_objField b_marked b_global b_fMethod b_fPc b_fHigh b_fLocal b_fEntry C (fun b1 hb1 hb2 => ?_)
    rw [hb1 rfl]
    refine br_f (by decide) (br_f (by decide) (br_f (by decide) (br_f (by decide) (br_f (by decide) (br_f (by decide) (br_f (by decide) (br_f (by decide) (br_f (by decide) (br_f (by decide) (br_f (by decide) (br_f (by decide) (br_t (by decide) (?_)))))))))))))
    rw [show (nI f * 4) + nI b = nI (f * 4 + b) by simp (disch := omega) only [gm_ml, nI_add], nI_clamp (by omega)]
    refine ⟨vp_in_nI (by omega) (by omega), nm_e ?_⟩
    exact br_f (by decide) (br_f (by decide) (br_f (by decide) (br_f (by decide) (br_f (by decide) (br_f (by decide) (br_f (by decide) (br_f (by decide) (br_f (by decide) (br_f (by decide) (br_f (by decide) (br_f (by decide) (br_f (by decide) (br_t (by decide) (br_f (by decide) (br_f (by decide) (br_f (by decide) (br_f (by decide) (br_f (by decide) (br_f (by decide) (br_f (by decide) (e688p (nI tc) (nI mc) (-1) g_result 1 g_bad g_high g_refs (nI (f + 1)) (nI t) g_code a_typeAbove b_ownField a_methodType a_methodName a_codeLength a_bytes b_starts b_seen b_done b_heights b_local b_sure b_objType b_objField b_marked b_global b_fMethod b_fPc b_fHigh b_fLocal b_fEntry (tk := 0) (by omega) q6 (by decide) q19 (by omega) q5 J)))))))))))))))))))))
theorem op_19 (f_flowHeight f_latestResult : Int32) (a_typeAbove a_fieldSet a_methodType a_methodName a_codeLength a_bytes a_isStart a_heightAt a_kindsAt a_isWaiting a_flowKinds a_globals a_objectType a_fieldValue a_isMarked a_frameMethod a_frameAt a_frameHeight a_slots : Nat → Int32) (g_result g_bad g_high g_refs g_code : Int32) (b_ownField b_starts : Nat → Int32) (b_seen b_done : Nat → Int64) (b_heights b_local b_sure b_objType b_objField b_marked b_global b_fMethod b_fPc b_fHigh b_fLocal b_fEntry : Nat → Int32) {tc mc h f t m p hc o b nm : Nat} {mF pF hF : Nat → Nat} (C : CT tc mc h f t m p hc o b nm a_typeAbove a_fieldSet b_ownField a_methodName a_codeLength a_bytes a_heightAt a_kindsAt b_sure a_globals a_objectType a_fieldValue b_global b_objType b_objField a_frameMethod a_frameAt a_frameHeight a_slots b_fMethod b_fPc b_fHigh b_fLocal b_fEntry mF pF hF) (eo : o = 19) : SO (64 * t + sp pF (f + 1)) (nI tc, nI mc, 1, -1, f_flowHeight, nI (f + 1), nI t, -1, f_latestResult, a_typeAbove, a_fieldSet, a_methodType, a_methodName, a_codeLength, a_bytes, a_isStart, a_heightAt, a_kindsAt, a_isWaiting, a_flowKinds, a_globals, a_objectType, a_fieldValue, a_isMarked, a_frameMethod, a_frameAt, a_frameHeight, a_slots) (nI tc, nI mc, -1, g_result, 1, g_bad, g_high, g_refs, nI (f + 1), nI t, g_code, a_typeAbove, b_ownField, a_methodType, a_methodName, a_codeLength, a_bytes, b_starts, b_seen, b_done, b_heights, b_local, b_sure, b_objType, b_objField, b_marked, b_global, b_fMethod, b_fPc, b_fHigh, b_fLocal, b_fEntry) := by
  obtain ⟨q1, q2, q3, q4, q5, q6, q7, q8, q9, q10, q11, q12, q13, q14, q15, q16, q17, q18, q19, q20, q21, q22, q23, q24⟩ := ct_F C
  have f6 := C.2.2.2.2.1
  have HH := C.2.2.2.1
  subst eo
  have x1 := q21.1
  have x5 : is_gv 19 = true → hc - is_tk 19 < 5 := q21.2.2.2.2
  have tk : is_tk 19 = 0 := rfl
  have gv : is_gv 19 = true := rfl
  rw [tk] at x1 x5
  have x5 := x5 gv
  have hb2' : b < 2 := (q12 rfl).2.2.2.1 (by decide)
  obtain ⟨rg, hrg, eg1, eg2⟩ := HH.2.1 b hb2'
  refine so_top f_flowHeight f_latestResult a_typeAbove a_fieldSet a_methodType a_methodName a_codeLength a_bytes a_isStart a_heightAt a_kindsAt a_isWaiting a_flowKinds a_globals a_objectType a_fieldValue a_isMarked a_frameMethod a_frameAt a_frameHeight a_slots g_result g_bad g_high g_refs g_code b_ownField b_starts b_seen b_done b_heights b_local b_sure b_objType b_objField b_marked b_global b_fMethod b_fPc b_fHigh b_fLocal b_fEntry (t' := t) (p' := p + 2) (h' := h) (gl' := a_globals) (ot' := a_objectType) (fv' := a_fieldValue) (xm' := a_isMarked) (fa' := upd a_frameAt f (nI (p + 2))) (fh' := upd (a_frameHeight) f (nI (hc + 1))) (sl' := upd a_slots (f * 9 + 4 + (hc)) (a_globals b)) (yg' := b_global) (yt' := b_objType) (yf' := b_objField) (ym' := b_marked) (yp' := upd b_fPc f (nI (p + 2))) (yh' := upd (upd b_fHigh f (nI (hc - 0))) f (nI (hc - 0 + 1))) (yl' := b_fLocal) (ye' := upd b_fEntry (f * 6 + (hc - 0)) (b_global b)) C (Or.inr ⟨by decide, by decide, rfl⟩) (Nat.le_refl _) HH (Or.inl ⟨rfl, by omega⟩) (fun i hi => pk_un (by omega)) (fun i hi => pk_un (by omega)) ?e5 ?e6 ?e7 ?e8 pk_us pk_us ?t5 ?t6 ?hs ?gX ?gY
  case e5 => exact fun i hi => by rw [pk_un (by omega)]
  case e6 => exact fun i hi => by rw [pk_un (by omega), pk_un (by omega)]
  case e7 => exact fun i s hi hs => pk_un (by omega)
  case e8 => exact fun i s hi hs => ysl_e (by omega) hs (fun w => by omega)
  case t5 => rw [pk_us]; show nI (hc + 1) = nI (hc - 0 + 1); rfl
  case t6 => rw [pk_us]; show nI (hc - 0 + 1) = nI (hc - 0 + 1); rfl
  case hs =>
    have e := vr_push (f := f) (g := 4) (ax := a_globals b) (ay := b_global b) q21 gv (by decide) q5 (Nat.le_refl h) q23 rfl (by rw [eg1, eg2]; exact v_r hrg)
    rw [tk] at e
    rw [Nat.sub_zero] at e ⊢
    exact e
  case gX =>
    intro post J
    refine x_pre f_flowHeight f_latestResult a_typeAbove a_fieldSet a_methodType a_methodName a_codeLength a_bytes a_isStart a_heightAt a_kindsAt a_isWaiting a_flowKinds a_globals a_objectType a_fieldValue a_isMarked a_frameMethod a_frameAt a_frameHeight a_slots g_result g_bad g_high g_refs g_code b_ownField b_starts b_seen b_done b_heights b_local b_sure b_objType b_objField b_marked b_global b_fMethod b_fPc b_fHigh b_fLocal b_fEntry C ?_
    show wX_step_55 post (nI f) (nI 19) (nI 2) (nI b) (nI tc) (nI mc) 1 (-1) f_flowHeight (nI (f + 1)) (nI t) (-1) f_latestResult a_typeAbove a_fieldSet a_methodType a_methodName a_codeLength a_bytes a_isStart a_heightAt a_kindsAt a_isWaiting a_flowKinds a_globals a_objectType a_fieldValue a_isMarked a_frameMethod a_frameAt a_frameHeight a_slots
    refine br_f (by decide) (br_t (by decide) (br_f (by decide) (br_t (by decide) (br_f (by decide) (br_f (by decide) (br_f (by decide) (br_f (by decide) (br_f (by decide) (br_f (by decide) (br_f (by decide) (br_f (by decide) (br_f (by decide) (br_f (by decide) (br_f (by decide) (br_f (by decide) (br_f (by decide) (br_f (by decide) (br_f (by decide) (br_f (by decide) (br_f (by decide) (br_f (by decide) (br_f (by decide) (br_f (by decide) (br_f (by decide) (br_t (by decide) (?_))))))))))))))))))))))))))
    rw [nI_clamp (by omega)]
    exact ⟨vp_in_nI (by omega) (by omega), ex_push (nI tc) (nI mc) 1 (-1) f_flowHeight (nI (f + 1)) (nI t) (-1) f_latestResult a_typeAbove a_fieldSet a_methodType a_methodName a_codeLength a_bytes a_isStart a_heightAt a_kindsAt a_isWaiting a_flowKinds a_globals a_objectType a_fieldValue a_isMarked a_frameMethod a_frameAt a_frameHeight a_slots (by omega) q18 (by omega) (x206 (nI tc) (nI mc) 1 (-1) f_flowHeight (nI (f + 1)) (nI t) (-1) f_latestResult a_typeAbove a_fieldSet a_methodType a_methodName a_codeLength a_bytes a_isStart a_heightAt a_kindsAt a_isWaiting a_flowKinds a_globals a_objectType a_fieldValue a_isMarked a_frameMethod a_frameAt _ _ (by omega) q16 J)⟩
  case gY =>
    intro post J
    refine y_pre f_flowHeight f_latestResult a_typeAbove a_fieldSet a_methodType a_methodName a_codeLength a_bytes a_isStart a_heightAt a_kindsAt a_isWaiting a_flowKinds a_globals a_objectType a_fieldValue a_isMarked a_frameMethod a_frameAt a_frameHeight a_slots g_result g_bad g_high g_refs g_code b_ownField b_starts b_seen b_done b_heights b_local b_sure b_objType b_objField b_marked b_global b_fMethod b_fPc b_fHigh b_fLocal b_fEntry C (fun b1 hb1 hb2 => ?_)
    rw [hb1 rfl]
    refine br_f (by decide) (br_f (by decide) (br_f (by decide) (br_f (by decide) (br_f (by decide) (br_f (by decide) (br_f (by decide) (br_f (by decide) (br_f (by decide) (br_f (by decide) (br_f (by decide) (br_f (by decide) (br_f (by decide) (br_f (by decide) (br_f (by decide) (br_f (by decide) (br_f (by decide) (br_f (by decide) (br_f (by decide) (br_f (by decide) (br_f (by decide) (br_f (by decide) (br_f (by decide) (br_t (by decide) (?_))))))))))))))))))))))))
    rw [nI_clamp (by omega)]
    refine ⟨vp_in_nI (by omega) (by omega), nm_e ?_⟩
    exact br_f (by decide) (br_f (by decide) (br_f (by decide) (br_f (by decide) (br_f (by decide) (br_f (by decide) (br_f (by decide) (br_f (by decide) (br_f (by decide) (br_f (by decide) (br_f (by decide) (e688p (nI tc) (nI mc) (-1) g_result 1 g_bad g_high g_refs (nI (f + 1)) (nI t) g_code a_typeAbove b_ownField a_methodType a_methodName a_codeLength a_bytes b_starts b_seen b_done b_heights b_local b_sure b_objType b_objField b_marked b_global b_fMethod b_fPc b_fHigh b_fLocal b_fEntry (tk := 0) (by omega) q6 (by decide) q19 (by omega) q5 J)))))))))))
end
section
theorem ex_end (f_typeCount f_methodCount f_linked f_faultPlace f_flowHeight f_active f_ticksLeft f_outcome f_latestResult : Int32) (a_typeAbove a_fieldSet a_methodType a_methodName a_codeLength a_bytes a_isStart a_heightAt a_kindsAt a_isWaiting a_flowKinds a_globals a_objectType a_fieldValue a_isMarked a_frameMethod a_frameAt a_frameHeight a_slots : Nat → Int32) {post : SX → Prop} {a c : Int32} (J : post (f_typeCount, f_methodCount, f_linked, f_faultPlace, f_flowHeight, f_active, f_ticksLeft, a, c, a_typeAbove, a_fieldSet, a_methodType, a_methodName, a_codeLength, a_bytes, a_isStart, a_heightAt, a_kindsAt, a_isWaiting, a_flowKinds, a_globals, a_objectType, a_fieldValue, a_isMarked, a_frameMethod, a_frameAt, a_frameHeight, a_slots)) : wpX_end post (f_typeCount, f_methodCount, f_linked, f_faultPlace, f_flowHeight, f_active, f_ticksLeft, f_outcome, f_latestResult, a_typeAbove, a_fieldSet, a_methodType, a_methodName, a_codeLength, a_bytes, a_isStart, a_heightAt, a_kindsAt, a_isWaiting, a_flowKinds, a_globals, a_objectType, a_fieldValue, a_isMarked, a_frameMethod, a_frameAt, a_frameHeight, a_slots) a c := J
theorem ex_tick0 (f_typeCount f_methodCount f_linked f_faultPlace f_flowHeight f_active f_outcome f_latestResult : Int32) (a_typeAbove a_fieldSet a_methodType a_methodName a_codeLength a_bytes a_isStart a_heightAt a_kindsAt a_isWaiting a_flowKinds a_globals a_objectType a_fieldValue a_isMarked a_frameMethod a_frameAt a_frameHeight a_slots : Nat → Int32) {post : Int32 → SX → Prop} (J : post 0 (f_typeCount, f_methodCount, f_linked, f_faultPlace, f_flowHeight, f_active, nI 0, 2, 0, a_typeAbove, a_fieldSet, a_methodType, a_methodName, a_codeLength, a_bytes, a_isStart, a_heightAt, a_kindsAt, a_isWaiting, a_flowKinds, a_globals, a_objectType, a_fieldValue, a_isMarked, a_frameMethod, a_frameAt, a_frameHeight, a_slots)) : wpX_useTick post (f_typeCount, f_methodCount, f_linked, f_faultPlace, f_flowHeight, f_active, nI 0, f_outcome, f_latestResult, a_typeAbove, a_fieldSet, a_methodType, a_methodName, a_codeLength, a_bytes, a_isStart, a_heightAt, a_kindsAt, a_isWaiting, a_flowKinds, a_globals, a_objectType, a_fieldValue, a_isMarked, a_frameMethod, a_frameAt, a_frameHeight, a_slots) := br_t rfl J
theorem ex_tick1 (f_typeCount f_methodCount f_linked f_faultPlace f_flowHeight f_active f_outcome f_latestResult : Int32) (a_typeAbove a_fieldSet a_methodType a_methodName a_codeLength a_bytes a_isStart a_heightAt a_kindsAt a_isWaiting a_flowKinds a_globals a_objectType a_fieldValue a_isMarked a_frameMethod a_frameAt a_frameHeight a_slots : Nat → Int32) {post : Int32 → SX → Prop} {t : Nat} (ht : t < 1000) (J : post 1 (f_typeCount, f_methodCount, f_linked, f_faultPlace, f_flowHeight, f_active, nI t, f_outcome, f_latestResult, a_typeAbove, a_fieldSet, a_methodType, a_methodName, a_codeLength, a_bytes, a_isStart, a_heightAt, a_kindsAt, a_isWaiting, a_flowKinds, a_globals, a_objectType, a_fieldValue, a_isMarked, a_frameMethod, a_frameAt, a_frameHeight, a_slots)) : wpX_useTick post (f_typeCount, f_methodCount, f_linked, f_faultPlace, f_flowHeight, f_active, nI (t + 1), f_outcome, f_latestResult, a_typeAbove, a_fieldSet, a_methodType, a_methodName, a_codeLength, a_bytes, a_isStart, a_heightAt, a_kindsAt, a_isWaiting, a_flowKinds, a_globals, a_objectType, a_fieldValue, a_isMarked, a_frameMethod, a_frameAt, a_frameHeight, a_slots) := br_f (nI_ne0 (by omega) (by omega)) (nm_r (nI_pred t) J)
/-- a jump: forward, back with a tick, back without -/
theorem ex_jumpF (f_typeCount f_methodCount f_linked f_faultPlace f_flowHeight f_active f_ticksLeft f_outcome f_latestResult : Int32) (a_typeAbove a_fieldSet a_methodType a_methodName a_codeLength a_bytes a_isStart a_heightAt a_kindsAt a_isWaiting a_flowKinds a_globals a_objectType a_fieldValue a_isMarked a_frameMethod a_frameAt a_frameHeight a_slots : Nat → Int32) {post : SX → Prop} {f p b : Nat} (hf : f < 6) (e : a_frameAt f = nI p) (hp : p < 32) (hb : b < 256) (h : p < b) (J : post (f_typeCount, f_methodCount, f_linked, f_faultPlace, f_flowHeight, f_active, f_ticksLeft, f_outcome, f_latestResult, a_typeAbove, a_fieldSet, a_methodType, a_methodName, a_codeLength, a_bytes, a_isStart, a_heightAt, a_kindsAt, a_isWaiting, a_flowKinds, a_globals, a_objectType, a_fieldValue, a_isMarked, a_frameMethod, upd a_frameAt f (nI b), a_frameHeight, a_slots)) : wpX_jump post (f_typeCount, f_methodCount, f_linked, f_faultPlace, f_flowHeight, f_active, f_ticksLeft, f_outcome, f_latestResult, a_typeAbove, a_fieldSet, a_methodType, a_methodName, a_codeLength, a_bytes, a_isStart, a_heightAt, a_kindsAt, a_isWaiting, a_flowKinds, a_globals, a_objectType, a_fieldValue, a_isMarked, a_frameMethod, a_frameAt, a_frameHeight, a_slots) (nI f) (nI b) := by
  unfold wpX_jump
  simp (disch := omega) only [nI_clamp, gm_clL, gm_in, gm_inL, gm_ml, gm_al, gm_la, gm_sl, nI_add, pk_mul, gm_eqL, gm_leL, gm_ltL, gm_Lle, gm_Llt, gm_eq, gm_le, gm_lt, gm_m1, forall_eq, true_and, Nat.not_lt_zero, Nat.add_sub_cancel, gm_z2, gm_z3, gm_z9, gm_z16, gm_z18, gm_z32, gm_z36, gm_z64, gm_z1152, not_true_eq_false, not_false_eq_true, false_implies, true_implies, and_true, implies_true, e]
  exact ⟨fun _ => J, fun z => absurd h z⟩
theorem ex_jumpB (f_typeCount f_methodCount f_linked f_faultPlace f_flowHeight f_active f_outcome f_latestResult : Int32) (a_typeAbove a_fieldSet a_methodType a_methodName a_codeLength a_bytes a_isStart a_heightAt a_kindsAt a_isWaiting a_flowKinds a_globals a_objectType a_fieldValue a_isMarked a_frameMethod a_frameAt a_frameHeight a_slots : Nat → Int32) {post : SX → Prop} {f p b t : Nat} (hf : f < 6) (e : a_frameAt f = nI p) (hp : p < 32) (hb : b < 256) (ht : t < 1000) (h : b ≤ p) (J : post (f_typeCount, f_methodCount, f_linked, f_faultPlace, f_flowHeight, f_active, nI t, f_outcome, f_latestResult, a_typeAbove, a_fieldSet, a_methodType, a_methodName, a_codeLength, a_bytes, a_isStart, a_heightAt, a_kindsAt, a_isWaiting, a_flowKinds, a_globals, a_objectType, a_fieldValue, a_isMarked, a_frameMethod, upd a_frameAt f (nI b), a_frameHeight, a_slots)) : wpX_jump post (f_typeCount, f_methodCount, f_linked, f_faultPlace, f_flowHeight, f_active, nI (t + 1), f_outcome, f_latestResult, a_typeAbove, a_fieldSet, a_methodType, a_methodName, a_codeLength, a_bytes, a_isStart, a_heightAt, a_kindsAt, a_isWaiting, a_flowKinds, a_globals, a_objectType, a_fieldValue, a_isMarked, a_frameMethod, a_frameAt, a_frameHeight, a_slots) (nI f) (nI b) := by
  unfold wpX_jump
  refine ⟨vp_in_nI hf (by omega), ?_⟩
  rw [nI_clamp (by omega), e]
  refine pk_lt p b (fun z => absurd z (by omega)) (fun _ => ex_tick1 f_typeCount f_methodCount f_linked f_faultPlace f_flowHeight f_active f_outcome f_latestResult a_typeAbove a_fieldSet a_methodType a_methodName a_codeLength a_bytes a_isStart a_heightAt a_kindsAt a_isWaiting a_flowKinds a_globals a_objectType a_fieldValue a_isMarked a_frameMethod a_frameAt a_frameHeight a_slots ht (br_f (by decide) ⟨vp_in_nI hf (by omega), nm_e J⟩))
theorem ex_jump0 (f_typeCount f_methodCount f_linked f_faultPlace f_flowHeight f_active f_outcome f_latestResult : Int32) (a_typeAbove a_fieldSet a_methodType a_methodName a_codeLength a_bytes a_isStart a_heightAt a_kindsAt a_isWaiting a_flowKinds a_globals a_objectType a_fieldValue a_isMarked a_frameMethod a_frameAt a_frameHeight a_slots : Nat → Int32) {post : SX → Prop} {f p b : Nat} (hf : f < 6) (e : a_frameAt f = nI p) (hp : p < 32) (hb : b < 256) (h : b ≤ p) (J : post (f_typeCount, f_methodCount, f_linked, f_faultPlace, f_flowHeight, f_active, nI 0, 2, 0, a_typeAbove, a_fieldSet, a_methodType, a_methodName, a_codeLength, a_bytes, a_isStart, a_heightAt, a_kindsAt, a_isWaiting, a_flowKinds, a_globals, a_objectType, a_fieldValue, a_isMarked, a_frameMethod, a_frameAt, a_frameHeight, a_slots)) : wpX_jump post (f_typeCount, f_methodCount, f_linked, f_faultPlace, f_flowHeight, f_active, nI 0, f_outcome, f_latestResult, a_typeAbove, a_fieldSet, a_methodType, a_methodName, a_codeLength, a_bytes, a_isStart, a_heightAt, a_kindsAt, a_isWaiting, a_flowKinds, a_globals, a_objectType, a_fieldValue, a_isMarked, a_frameMethod, a_frameAt, a_frameHeight, a_slots) (nI f) (nI b) := by
  unfold wpX_jump
  refine ⟨vp_in_nI hf (by omega), ?_⟩
  rw [nI_clamp (by omega), e]
  refine pk_lt p b (fun z => absurd z (by omega)) (fun _ => ex_tick0 f_typeCount f_methodCount f_linked f_faultPlace f_flowHeight f_active f_outcome f_latestResult a_typeAbove a_fieldSet a_methodType a_methodName a_codeLength a_bytes a_isStart a_heightAt a_kindsAt a_isWaiting a_flowKinds a_globals a_objectType a_fieldValue a_isMarked a_frameMethod a_frameAt a_frameHeight a_slots (br_t rfl J))
theorem ex_jz (f_typeCount f_methodCount f_linked f_faultPlace f_flowHeight f_active f_ticksLeft f_outcome f_latestResult : Int32) (a_typeAbove a_fieldSet a_methodType a_methodName a_codeLength a_bytes a_isStart a_heightAt a_kindsAt a_isWaiting a_flowKinds a_globals a_objectType a_fieldValue a_isMarked a_frameMethod a_frameAt a_frameHeight a_slots : Nat → Int32) {post : SX → Prop} {f p h b : Nat} (hf : f < 6) (hh : a_frameHeight f = nI h) (e : a_frameAt f = nI p) (hp : p < 32) (h1 : 1 ≤ h) (h5 : h ≤ 5) (J0 : a_slots (f * 9 + 4 + (h - 1)) = 0 → wpX_jump post (f_typeCount, f_methodCount, f_linked, f_faultPlace, f_flowHeight, f_active, f_ticksLeft, f_outcome, f_latestResult, a_typeAbove, a_fieldSet, a_methodType, a_methodName, a_codeLength, a_bytes, a_isStart, a_heightAt, a_kindsAt, a_isWaiting, a_flowKinds, a_globals, a_objectType, a_fieldValue, a_isMarked, a_frameMethod, a_frameAt, upd a_frameHeight f (nI (h - 1)), a_slots) (nI f) (nI b)) (J1 : ¬ a_slots (f * 9 + 4 + (h - 1)) = 0 → post (f_typeCount, f_methodCount, f_linked, f_faultPlace, f_flowHeight, f_active, f_ticksLeft, f_outcome, f_latestResult, a_typeAbove, a_fieldSet, a_methodType, a_methodName, a_codeLength, a_bytes, a_isStart, a_heightAt, a_kindsAt, a_isWaiting, a_flowKinds, a_globals, a_objectType, a_fieldValue, a_isMarked, a_frameMethod, upd a_frameAt f (nI (p + 2)), upd a_frameHeight f (nI (h - 1)), a_slots)) : wpX_jumpIfZero post (f_typeCount, f_methodCount, f_linked, f_faultPlace, f_flowHeight, f_active, f_ticksLeft, f_outcome, f_latestResult, a_typeAbove, a_fieldSet, a_methodType, a_methodName, a_codeLength, a_bytes, a_isStart, a_heightAt, a_kindsAt, a_isWaiting, a_flowKinds, a_globals, a_objectType, a_fieldValue, a_isMarked, a_frameMethod, a_frameAt, a_frameHeight, a_slots) (nI f) (nI b) := by
  unfold wpX_jumpIfZero
  refine ex_pop f_typeCount f_methodCount f_linked f_faultPlace f_flowHeight f_active f_ticksLeft f_outcome f_latestResult a_typeAbove a_fieldSet a_methodType a_methodName a_codeLength a_bytes a_isStart a_heightAt a_kindsAt a_isWaiting a_flowKinds a_globals a_objectType a_fieldValue a_isMarked a_frameMethod a_frameAt a_frameHeight a_slots hf hh h1 h5 ⟨fun z => J0 z, fun z => ⟨vp_in_nI hf (by omega), vp_in_nI hf (by omega), ?_⟩⟩
  rw [nI_clamp (by omega), e]
  refine nm_r ?_ (J1 z)
  rw [show nI p + 2 = nI (p + 2) from nI_add p 2]
theorem rl_Hg {h tc g r : Nat} {fs gl ot fv yg yt yf : Nat → Int32} (H : rl_H h tc fs gl ot fv yg yt yf) (hr : r ≤ h) : rl_H h tc fs (upd gl g (nI r)) ot fv (upd yg g (yR r)) yt yf := by
  obtain ⟨a, b, c⟩ := H
  refine ⟨a, fun g' hg' => ?_, c⟩
  by_cases e : g' = g
  · subst e; exact ⟨r, hr, pk_us, pk_us⟩
  · rw [pk_un e, pk_un e]; exact b g' hg'
end
section
theorem op_3 (f_flowHeight f_latestResult : Int32) (a_typeAbove a_fieldSet a_methodType a_methodName a_codeLength a_bytes a_isStart a_heightAt a_kindsAt a_isWaiting a_flowKinds a_globals a_objectType a_fieldValue a_isMarked a_frameMethod a_frameAt a_frameHeight a_slots : Nat → Int32) (g_result g_bad g_high g_refs g_code : Int32) (b_ownField b_starts : Nat → Int32) (b_seen b_done : Nat → Int64) (b_heights b_local b_sure b_objType b_objField b_marked b_global b_fMethod b_fPc b_fHigh b_fLocal b_fEntry : Nat → Int32) {tc mc h f t m p hc o b nm : Nat} {mF pF hF : Nat → Nat} (C : CT tc mc h f t m p hc o b nm a_typeAbove a_fieldSet b_ownField a_methodName a_codeLength a_bytes a_heightAt a_kindsAt b_sure a_globals a_objectType a_fieldValue b_global b_objType b_objField a_frameMethod a_frameAt a_frameHeight a_slots b_fMethod b_fPc b_fHigh b_fLocal b_fEntry mF pF hF) (eo : o = 3) : SO (64 * t + sp pF (f + 1)) (nI tc, nI mc, 1, -1, f_flowHeight, nI (f + 1), nI t, -1, f_latestResult, a_typeAbove, a_fieldSet, a_methodType, a_methodName, a_codeLength, a_bytes, a_isStart, a_heightAt, a_kindsAt, a_isWaiting, a_flowKinds, a_globals, a_objectType, a_fieldValue, a_isMarked, a_frameMethod, a_frameAt, a_frameHeight, a_slots) (nI tc, nI mc, -1, g_result, 1, g_bad, g_high, g_refs, nI (f + 1), nI t, g_code, a_typeAbove, b_ownField, a_methodType, a_methodName, a_codeLength, a_bytes, b_starts, b_seen, b_done, b_heights, b_local, b_sure, b_objType, b_objField, b_marked, b_global, b_fMethod, b_fPc, b_fHigh, b_fLocal, b_fEntry) := by
  obtain ⟨q1, q2, q3, q4, q5, q6, q7, q8, q9, q10, q11, q12, q13, q14, q15, q16, q17, q18, q19, q20, q21, q22, q23, q24⟩ := ct_F C
  have f6 := C.2.2.2.2.1
  have HH := C.2.2.2.1
  subst eo
  have x1 : 1 ≤ hc := q21.1
  refine so_top f_flowHeight f_latestResult a_typeAbove a_fieldSet a_methodType a_methodName a_codeLength a_bytes a_isStart a_heightAt a_kindsAt a_isWaiting a_flowKinds a_globals a_objectType a_fieldValue a_isMarked a_frameMethod a_frameAt a_frameHeight a_slots g_result g_bad g_high g_refs g_code b_ownField b_starts b_seen b_done b_heights b_local b_sure b_objType b_objField b_marked b_global b_fMethod b_fPc b_fHigh b_fLocal b_fEntry (t' := t) (p' := p + 1) (h' := h) (gl' := a_globals) (ot' := a_objectType) (fv' := a_fieldValue) (xm' := a_isMarked) (fa' := upd a_frameAt f (nI (p + 1))) (fh' := upd a_frameHeight f (nI (hc - 1))) (sl' := a_slots) (yg' := b_global) (yt' := b_objType) (yf' := b_objField) (ym' := b_marked) (yp' := upd b_fPc f (nI (p + 1))) (yh' := upd b_fHigh f (nI (hc - 1))) (yl' := b_fLocal) (ye' := b_fEntry) C (Or.inr ⟨by decide, by decide, rfl⟩) (Nat.le_refl _) HH (Or.inl ⟨rfl, by omega⟩) (fun i hi => pk_un (by omega)) (fun i hi => pk_un (by omega)) ?e5 ?e6 ?e7 ?e8 pk_us pk_us ?t5 ?t6 ?hs ?gX ?gY
  case e5 => exact fun i hi => pk_un (by omega)
  case e6 => exact fun i hi => pk_un (by omega)
  case e7 => exact fun i s hi hs => rfl
  case e8 => exact fun i s hi hs => rfl
  case t5 => exact pk_us
  case t6 => exact pk_us
  case hs => exact vr_none q21 rfl (by decide) (Nat.le_refl h) q23
  case gX =>
    intro post J
    refine x_pre f_flowHeight f_latestResult a_typeAbove a_fieldSet a_methodType a_methodName a_codeLength a_bytes a_isStart a_heightAt a_kindsAt a_isWaiting a_flowKinds a_globals a_objectType a_fieldValue a_isMarked a_frameMethod a_frameAt a_frameHeight a_slots g_result g_bad g_high g_refs g_code b_ownField b_starts b_seen b_done b_heights b_local b_sure b_objType b_objField b_marked b_global b_fMethod b_fPc b_fHigh b_fLocal b_fEntry C ?_
    exact br_t (by decide) (br_t (by decide) (br_f (by decide) (br_f (by decide) (br_f (by decide) (br_f (by decide) (br_f (by decide) (br_t (by decide) (ex_pop (nI tc) (nI mc) 1 (-1) f_flowHeight (nI (f + 1)) (nI t) (-1) f_latestResult a_typeAbove a_fieldSet a_methodType a_methodName a_codeLength a_bytes a_isStart a_heightAt a_kindsAt a_isWaiting a_flowKinds a_globals a_objectType a_fieldValue a_isMarked a_frameMethod a_frameAt a_frameHeight a_slots (by omega) q18 (by omega) q5 (x206 (nI tc) (nI mc) 1 (-1) f_flowHeight (nI (f + 1)) (nI t) (-1) f_latestResult a_typeAbove a_fieldSet a_methodType a_methodName a_codeLength a_bytes a_isStart a_heightAt a_kindsAt a_isWaiting a_flowKinds a_globals a_objectType a_fieldValue a_isMarked a_frameMethod a_frameAt _ a_slots (by omega) q16 J)))))))))
  case gY =>
    intro post J
    refine y_pre f_flowHeight f_latestResult a_typeAbove a_fieldSet a_methodType a_methodName a_codeLength a_bytes a_isStart a_heightAt a_kindsAt a_isWaiting a_flowKinds a_globals a_objectType a_fieldValue a_isMarked a_frameMethod a_frameAt a_frameHeight a_slots g_result g_bad g_high g_refs g_code b_ownField b_starts b_seen b_done b_heights b_local b_sure b_objType b_objField b_marked b_global b_fMethod b_fPc b_fHigh b_fLocal b_fEntry C (fun b1 hb1 hb2 => ?_)
    exact br_f (by decide) (br_f (by decide) (br_f (by decide) (br_f (by decide) (br_f (by decide) (br_f (by decide) (br_f (by decide) (br_f (by decide) (br_f (by decide) (br_f (by decide) (br_f (by decide) (br_f (by decide) (br_f (by decide) (br_f (by decide) (br_f (by decide) (br_f (by decide) (br_f (by decide) (br_f (by decide) (br_f (by decide) (br_f (by decide) (br_f (by decide) (br_f (by decide) (br_f (by decide) (br_f (by decide) (br_f (by decide) (br_f (by decide) (br_t (by decide) (br_f (by decide) (br_f (by decide) (br_t (by decide) (e688n (nI tc) (nI mc) (-1) g_result 1 g_bad g_high g_refs (nI (f + 1)) (nI t) g_code a_typeAbove b_ownField a_methodType a_methodName a_codeLength a_bytes b_starts b_seen b_done b_heights b_local b_sure b_objType b_objField b_marked b_global b_fMethod b_fPc b_fHigh b_fLocal b_fEntry (tk := 1) (by omega) q6 (by decide) q19 (by omega) q5 J))))))))))))))))))))))))))))))
theorem op_2 (f_flowHeight f_latestResult : Int32) (a_typeAbove a_fieldSet a_methodType a_methodName a_codeLength a_bytes a_isStart a_heightAt a_kindsAt a_isWaiting a_flowKinds a_globals a_objectType a_fieldValue a_isMarked a_frameMethod a_frameAt a_frameHeight a_slots : Nat → Int32) (g_result g_bad g_high g_refs g_code : Int32) (b_ownField b_starts : Nat → Int32) (b_seen b_done : Nat → Int64) (b_heights b_local b_sure b_objType b_objField b_marked b_global b_fMethod b_fPc b_fHigh b_fLocal b_fEntry : Nat → Int32) {tc mc h f t m p hc o b nm : Nat} {mF pF hF : Nat → Nat} (C : CT tc mc h f t m p hc o b nm a_typeAbove a_fieldSet b_ownField a_methodName a_codeLength a_bytes a_heightAt a_kindsAt b_sure a_globals a_objectType a_fieldValue b_global b_objType b_objField a_frameMethod a_frameAt a_frameHeight a_slots b_fMethod b_fPc b_fHigh b_fLocal b_fEntry mF pF hF) (eo : o = 2) : SO (64 * t + sp pF (f + 1)) (nI tc, nI mc, 1, -1, f_flowHeight, nI (f + 1), nI t, -1, f_latestResult, a_typeAbove, a_fieldSet, a_methodType, a_methodName, a_codeLength, a_bytes, a_isStart, a_heightAt, a_kindsAt, a_isWaiting, a_flowKinds, a_globals, a_objectType, a_fieldValue, a_isMarked, a_frameMethod, a_frameAt, a_frameHeight, a_slots) (nI tc, nI mc, -1, g_result, 1, g_bad, g_high, g_refs, nI (f + 1), nI t, g_code, a_typeAbove, b_ownField, a_methodType, a_methodName, a_codeLength, a_bytes, b_starts, b_seen, b_done, b_heights, b_local, b_sure, b_objType, b_objField, b_marked, b_global, b_fMethod, b_fPc, b_fHigh, b_fLocal, b_fEntry) := by
  obtain ⟨q1, q2, q3, q4, q5, q6, q7, q8, q9, q10, q11, q12, q13, q14, q15, q16, q17, q18, q19, q20, q21, q22, q23, q24⟩ := ct_F C
  have f6 := C.2.2.2.2.1
  have HH := C.2.2.2.1
  subst eo
  have x1 : 1 ≤ hc := q21.1
  have hb4 : b < 4 := (q12 rfl).2.1 (Or.inr rfl)
  refine so_top f_flowHeight f_latestResult a_typeAbove a_fieldSet a_methodType a_methodName a_codeLength a_bytes a_isStart a_heightAt a_kindsAt a_isWaiting a_flowKinds a_globals a_objectType a_fieldValue a_isMarked a_frameMethod a_frameAt a_frameHeight a_slots g_result g_bad g_high g_refs g_code b_ownField b_starts b_seen b_done b_heights b_local b_sure b_objType b_objField b_marked b_global b_fMethod b_fPc b_fHigh b_fLocal b_fEntry (t' := t) (p' := p + 2) (h' := h) (gl' := a_globals) (ot' := a_objectType) (fv' := a_fieldValue) (xm' := a_isMarked) (fa' := upd a_frameAt f (nI (p + 2))) (fh' := upd a_frameHeight f (nI (hc - 1))) (sl' := upd a_slots (f * 9 + b) (a_slots (f * 9 + 4 + (hc - 1)))) (yg' := b_global) (yt' := b_objType) (yf' := b_objField) (ym' := b_marked) (yp' := upd b_fPc f (nI (p + 2))) (yh' := upd b_fHigh f (nI (hc - 1))) (yl' := upd b_fLocal (f * 4 + b) (b_fEntry (f * 6 + (hc - 1)))) (ye' := b_fEntry) C (Or.inr ⟨by decide, by decide, rfl⟩) (Nat.le_refl _) HH (Or.inl ⟨rfl, by omega⟩) (fun i hi => pk_un (by omega)) (fun i hi => pk_un (by omega)) ?e5 ?e6 ?e7 ?e8 pk_us pk_us ?t5 ?t6 ?hs ?gX ?gY
  case e5 => exact fun i hi => pk_un (by omega)
  case e6 => exact fun i hi => pk_un (by omega)
  case e7 => exact fun i s hi hs => pk_un (by omega)
  case e8 => exact fun i s hi hs => ysl_l hb4 (fun w => by omega)
  case t5 => exact pk_us
  case t6 => exact pk_us
  case hs => exact vr_store q21 hb4 q5 q23
  case gX =>
    intro post J
    refine x_pre f_flowHeight f_latestResult a_typeAbove a_fieldSet a_methodType a_methodName a_codeLength a_bytes a_isStart a_heightAt a_kindsAt a_isWaiting a_flowKinds a_globals a_objectType a_fieldValue a_isMarked a_frameMethod a_frameAt a_frameHeight a_slots g_result g_bad g_high g_refs g_code b_ownField b_starts b_seen b_done b_heights b_local b_sure b_objType b_objField b_marked b_global b_fMethod b_fPc b_fHigh b_fLocal b_fEntry C ?_
    show wX_step_55 post (nI f) (nI 2) (nI 2) (nI b) (nI tc) (nI mc) 1 (-1) f_flowHeight (nI (f + 1)) (nI t) (-1) f_latestResult a_typeAbove a_fieldSet a_methodType a_methodName a_codeLength a_bytes a_isStart a_heightAt a_kindsAt a_isWaiting a_flowKinds a_globals a_objectType a_fieldValue a_isMarked a_frameMethod a_frameAt a_frameHeight a_slots
    refine br_t (by decide) (br_t (by decide) (br_f (by decide) (br_f (by decide) (br_f (by decide) (br_f (by decide) (br_t (by decide) (ex_pop (nI tc) (nI mc) 1 (-1) f_flowHeight (nI (f + 1)) (nI t) (-1) f_latestResult a_typeAbove a_fieldSet a_methodType a_methodName a_codeLength a_bytes a_isStart a_heightAt a_kindsAt a_isWaiting a_flowKinds a_globals a_objectType a_fieldValue a_isMarked a_frameMethod a_frameAt a_frameHeight a_slots (by omega) q18 (by omega) q5 ?_)))))))
    rw [show (nI f * 9) + nI b = nI (f * 9 + b) by simp (disch := omega) only [gm_ml, nI_add], nI_clamp (by omega)]
    exact ⟨vp_in_nI (by omega) (by omega), nm_e (x206 (nI tc) (nI mc) 1 (-1) f_flowHeight (nI (f + 1)) (nI t) (-1) f_latestResult a_typeAbove a_fieldSet a_methodType a_methodName a_codeLength a_bytes a_isStart a_heightAt a_kindsAt a_isWaiting a_flowKinds a_globals a_objectType a_fieldValue a_isMarked a_frameMethod a_frameAt _ _ (by omega) q16 J)⟩
  case gY =>
    intro post J
    refine y_pre f_flowHeight f_latestResult a_typeAbove a_fieldSet a_methodType a_methodName a_codeLength a_bytes a_isStart a_heightAt a_kindsAt a_isWaiting a_flowKinds a_globals a_objectType a_fieldValue a_isMarked a_frameMethod a_frameAt a_frameHeight a_slots g_result g_bad g_high g_refs g_code b_ownField b_starts b_seen b_done b_heights b_local b_sure b_objType b_objField b_marked b_global b_fMethod b_fPc b_fHigh b_fLocal b_fEntry C (fun b1 hb1 hb2 => ?_)
    rw [hb1 rfl, if_pos x1]
    refine br_f (by decide) (br_f (by decide) (br_f (by decide) (br_f (by decide) (br_f (by decide) (br_f (by decide) (br_f (by decide) (br_f (by decide) (br_f (by decide) (br_f (by decide) (br_f (by decide) (br_f (by decide) (br_f (by decide) (br_f (by decide) (br_f (by decide) (br_f (by decide) (br_f (by decide) (br_f (by decide) (br_f (by decide) (br_f (by decide) (br_f (by decide) (br_f (by decide) (br_f (by decide) (br_f (by decide) (br_f (by decide) (br_t (by decide) (?_))))))))))))))))))))))))))
    rw [show (nI f * 4) + nI b = nI (f * 4 + b) by simp (disch := omega) only [gm_ml, nI_add], nI_clamp (by omega)]
    refine ⟨vp_in_nI (by omega) (by omega), nm_e ?_⟩
    exact br_t (by decide) (br_f (by decide) (br_t (by decide) (e688n (nI tc) (nI mc) (-1) g_result 1 g_bad g_high g_refs (nI (f + 1)) (nI t) g_code a_typeAbove b_ownField a_methodType a_methodName a_codeLength a_bytes b_starts b_seen b_done b_heights b_local b_sure b_objType b_objField b_marked b_global b_fMethod b_fPc b_fHigh _ b_fEntry (tk := 1) (by omega) q6 (by decide) q19 (by omega) q5 J)))
theorem op_20 (f_flowHeight f_latestResult : Int32) (a_typeAbove a_fieldSet a_methodType a_methodName a_codeLength a_bytes a_isStart a_heightAt a_kindsAt a_isWaiting a_flowKinds a_globals a_objectType a_fieldValue a_isMarked a_frameMethod a_frameAt a_frameHeight a_slots : Nat → Int32) (g_result g_bad g_high g_refs g_code : Int32) (b_ownField b_starts : Nat → Int32) (b_seen b_done : Nat → Int64) (b_heights b_local b_sure b_objType b_objField b_marked b_global b_fMethod b_fPc b_fHigh b_fLocal b_fEntry : Nat → Int32) {tc mc h f t m p hc o b nm : Nat} {mF pF hF : Nat → Nat} (C : CT tc mc h f t m p hc o b nm a_typeAbove a_fieldSet b_ownField a_methodName a_codeLength a_bytes a_heightAt a_kindsAt b_sure a_globals a_objectType a_fieldValue b_global b_objType b_objField a_frameMethod a_frameAt a_frameHeight a_slots b_fMethod b_fPc b_fHigh b_fLocal b_fEntry mF pF hF) (eo : o = 20) : SO (64 * t + sp pF (f + 1)) (nI tc, nI mc, 1, -1, f_flowHeight, nI (f + 1), nI t, -1, f_latestResult, a_typeAbove, a_fieldSet, a_methodType, a_methodName, a_codeLength, a_bytes, a_isStart, a_heightAt, a_kindsAt, a_isWaiting, a_flowKinds, a_globals, a_objectType, a_fieldValue, a_isMarked, a_frameMethod, a_frameAt, a_frameHeight, a_slots) (nI tc, nI mc, -1, g_result, 1, g_bad, g_high, g_refs, nI (f + 1), nI t, g_code, a_typeAbove, b_ownField, a_methodType, a_methodName, a_codeLength, a_bytes, b_starts, b_seen, b_done, b_heights, b_local, b_sure, b_objType, b_objField, b_marked, b_global, b_fMethod, b_fPc, b_fHigh, b_fLocal, b_fEntry) := by
  obtain ⟨q1, q2, q3, q4, q5, q6, q7, q8, q9, q10, q11, q12, q13, q14, q15, q16, q17, q18, q19, q20, q21, q22, q23, q24⟩ := ct_F C
  have f6 := C.2.2.2.2.1
  have HH := C.2.2.2.1
  subst eo
  have x1 : 1 ≤ hc := q21.1
  have hb2' : b < 2 := (q12 rfl).2.2.2.1 (by decide)
  obtain ⟨rv, hrv, ev1, ev2⟩ := v_ref (top_v q23 x1) (q22 _ (by omega)) (q21.2.1 (by decide))
  have HG := rl_Hg (g := b) HH hrv
  refine so_top f_flowHeight f_latestResult a_typeAbove a_fieldSet a_methodType a_methodName a_codeLength a_bytes a_isStart a_heightAt a_kindsAt a_isWaiting a_flowKinds a_globals a_objectType a_fieldValue a_isMarked a_frameMethod a_frameAt a_frameHeight a_slots g_result g_bad g_high g_refs g_code b_ownField b_starts b_seen b_done b_heights b_local b_sure b_objType b_objField b_marked b_global b_fMethod b_fPc b_fHigh b_fLocal b_fEntry (t' := t) (p' := p + 2) (h' := h) (gl' := upd a_globals b (nI rv)) (ot' := a_objectType) (fv' := a_fieldValue) (xm' := a_isMarked) (fa' := upd a_frameAt f (nI (p + 2))) (fh' := upd a_frameHeight f (nI (hc - 1))) (sl' := a_slots) (yg' := upd b_global b (yR rv)) (yt' := b_objType) (yf' := b_objField) (ym' := b_marked) (yp' := upd b_fPc f (nI (p + 2))) (yh' := upd b_fHigh f (nI (hc - 1))) (yl' := b_fLocal) (ye' := b_fEntry) C (Or.inr ⟨by decide, by decide, rfl⟩) (Nat.le_refl _) HG (Or.inl ⟨rfl, by omega⟩) (fun i hi => pk_un (by omega)) (fun i hi => pk_un (by omega)) ?e5 ?e6 ?e7 ?e8 pk_us pk_us ?t5 ?t6 ?hs ?gX ?gY
  case e5 => exact fun i hi => pk_un (by omega)
  case e6 => exact fun i hi => pk_un (by omega)
  case e7 => exact fun i s hi hs => rfl
  case e8 => exact fun i s hi hs => rfl
  case t5 => exact pk_us
  case t6 => exact pk_us
  case hs => exact vr_none q21 rfl (by decide) (Nat.le_refl h) q23
  case gX =>
    intro post J
    refine x_pre f_flowHeight f_latestResult a_typeAbove a_fieldSet a_methodType a_methodName a_codeLength a_bytes a_isStart a_heightAt a_kindsAt a_isWaiting a_flowKinds a_globals a_objectType a_fieldValue a_isMarked a_frameMethod a_frameAt a_frameHeight a_slots g_result g_bad g_high g_refs g_code b_ownField b_starts b_seen b_done b_heights b_local b_sure b_objType b_objField b_marked b_global b_fMethod b_fPc b_fHigh b_fLocal b_fEntry C ?_
    show wX_step_55 post (nI f) (nI 20) (nI 2) (nI b) (nI tc) (nI mc) 1 (-1) f_flowHeight (nI (f + 1)) (nI t) (-1) f_latestResult a_typeAbove a_fieldSet a_methodType a_methodName a_codeLength a_bytes a_isStart a_heightAt a_kindsAt a_isWaiting a_flowKinds a_globals a_objectType a_fieldValue a_isMarked a_frameMethod a_frameAt a_frameHeight a_slots
    refine br_f (by decide) (br_t (by decide) (br_f (by decide) (br_t (by decide) (br_f (by decide) (br_t (by decide) (ex_pop (nI tc) (nI mc) 1 (-1) f_flowHeight (nI (f + 1)) (nI t) (-1) f_latestResult a_typeAbove a_fieldSet a_methodType a_methodName a_codeLength a_bytes a_isStart a_heightAt a_kindsAt a_isWaiting a_flowKinds a_globals a_objectType a_fieldValue a_isMarked a_frameMethod a_frameAt a_frameHeight a_slots (by omega) q18 (by omega) q5 ?_))))))
    rw [nI_clamp (by omega), ev1]
    exact ⟨vp_in_nI (by omega) (by omega), nm_e (x206 (nI tc) (nI mc) 1 (-1) f_flowHeight (nI (f + 1)) (nI t) (-1) f_latestResult a_typeAbove a_fieldSet a_methodType a_methodName a_codeLength a_bytes a_isStart a_heightAt a_kindsAt a_isWaiting a_flowKinds _ a_objectType a_fieldValue a_isMarked a_frameMethod a_frameAt _ a_slots (by omega) q16 J)⟩
  case gY =>
    intro post J
    refine y_pre f_flowHeight f_latestResult a_typeAbove a_fieldSet a_methodType a_methodName a_codeLength a_bytes a_isStart a_heightAt a_kindsAt a_isWaiting a_flowKinds a_globals a_objectType a_fieldValue a_isMarked a_frameMethod a_frameAt a_frameHeight a_slots g_result g_bad g_high g_refs g_code b_ownField b_starts b_seen b_done b_heights b_local b_sure b_objType b_objField b_marked b_global b_fMethod b_fPc b_fHigh b_fLocal b_fEntry C (fun b1 hb1 hb2 => ?_)
    rw [hb1 rfl, if_pos x1, ev2]
    refine br_f (by decide) (br_f (by decide) (br_f (by decide) (br_f (by decide) (br_f (by decide) (br_f (by decide) (br_f (by decide) (br_f (by decide) (br_f (by decide) (br_f (by decide) (br_f (by decide) (br_f (by decide) (br_f (by decide) (br_f (by decide) (br_f (by decide) (br_f (by decide) (br_f (by decide) (br_f (by decide) (br_f (by decide) (br_f (by decide) (br_f (by decide) (br_f (by decide) (br_f (by decide) (br_f (by decide) (br_t (by decide) (?_)))))))))))))))))))))))))
    rw [nI_clamp (by omega)]
    refine ⟨vp_in_nI (by omega) (by omega), nm_e ?_⟩
    exact br_f (by decide) (br_f (by decide) (br_f (by decide) (br_f (by decide) (br_f (by decide) (br_f (by decide) (br_f (by decide) (br_f (by decide) (br_f (by decide) (br_t (by decide) (e688n (nI tc) (nI mc) (-1) g_result 1 g_bad g_high g_refs (nI (f + 1)) (nI t) g_code a_typeAbove b_ownField a_methodType a_methodName a_codeLength a_bytes b_starts b_seen b_done b_heights b_local b_sure b_objType b_objField b_marked _ b_fMethod b_fPc b_fHigh b_fLocal b_fEntry (tk := 1) (by omega) q6 (by decide) q19 (by omega) q5 J))))))))))
theorem op_7 (f_flowHeight f_latestResult : Int32) (a_typeAbove a_fieldSet a_methodType a_methodName a_codeLength a_bytes a_isStart a_heightAt a_kindsAt a_isWaiting a_flowKinds a_globals a_objectType a_fieldValue a_isMarked a_frameMethod a_frameAt a_frameHeight a_slots : Nat → Int32) (g_result g_bad g_high g_refs g_code : Int32) (b_ownField b_starts : Nat → Int32) (b_seen b_done : Nat → Int64) (b_heights b_local b_sure b_objType b_objField b_marked b_global b_fMethod b_fPc b_fHigh b_fLocal b_fEntry : Nat → Int32) {tc mc h f t m p hc o b nm : Nat} {mF pF hF : Nat → Nat} (C : CT tc mc h f t m p hc o b nm a_typeAbove a_fieldSet b_ownField a_methodName a_codeLength a_bytes a_heightAt a_kindsAt b_sure a_globals a_objectType a_fieldValue b_global b_objType b_objField a_frameMethod a_frameAt a_frameHeight a_slots b_fMethod b_fPc b_fHigh b_fLocal b_fEntry mF pF hF) (eo : o = 7) : SO (64 * t + sp pF (f + 1)) (nI tc, nI mc, 1, -1, f_flowHeight, nI (f + 1), nI t, -1, f_latestResult, a_typeAbove, a_fieldSet, a_methodType, a_methodName, a_codeLength, a_bytes, a_isStart, a_heightAt, a_kindsAt, a_isWaiting, a_flowKinds, a_globals, a_objectType, a_fieldValue, a_isMarked, a_frameMethod, a_frameAt, a_frameHeight, a_slots) (nI tc, nI mc, -1, g_result, 1, g_bad, g_high, g_refs, nI (f + 1), nI t, g_code, a_typeAbove, b_ownField, a_methodType, a_methodName, a_codeLength, a_bytes, b_starts, b_seen, b_done, b_heights, b_local, b_sure, b_objType, b_objField, b_marked, b_global, b_fMethod, b_fPc, b_fHigh, b_fLocal, b_fEntry) := by
  obtain ⟨q1, q2, q3, q4, q5, q6, q7, q8, q9, q10, q11, q12, q13, q14, q15, q16, q17, q18, q19, q20, q21, q22, q23, q24⟩ := ct_F C
  have f6 := C.2.2.2.2.1
  have HH := C.2.2.2.1
  subst eo
  have x1 : 2 ≤ hc := q21.1
  have x2 := q21.2.1 (by decide)
  have x3 := q21.2.2.1 rfl
  have ev := v_int (top_v q23 (by omega)) (q22 _ (by omega)) x2
  have eu := v_int (sec_v q23 x1) (q22 _ (by omega)) x3
  by_cases z0 : a_slots (f * 9 + 4 + (hc - 1)) = 0
  · refine so_end f_flowHeight f_latestResult a_typeAbove a_fieldSet a_methodType a_methodName a_codeLength a_bytes a_isStart a_heightAt a_kindsAt a_isWaiting a_flowKinds a_globals a_objectType a_fieldValue a_isMarked a_frameMethod a_frameAt a_frameHeight a_slots g_result g_bad g_high g_refs g_code b_ownField b_starts b_seen b_done b_heights b_local b_sure b_objType b_objField b_marked b_global b_fMethod b_fPc b_fHigh b_fLocal b_fEntry (h' := h) (r := 1) (u' := (nI tc, nI mc, 1, -1, f_flowHeight, nI (f + 1), nI t, 1, 2, a_typeAbove, a_fieldSet, a_methodType, a_methodName, a_codeLength, a_bytes, a_isStart, a_heightAt, a_kindsAt, a_isWaiting, a_flowKinds, a_globals, a_objectType, a_fieldValue, a_isMarked, a_frameMethod, upd a_frameAt f (nI (p + 1)), upd (upd a_frameHeight f (nI (hc - 1))) f (nI (hc - 1 - 1)), a_slots)) (v' := (nI tc, nI mc, -1, g_result, 1, g_bad, g_high, g_refs, nI (f + 1), nI t, 2, a_typeAbove, b_ownField, a_methodType, a_methodName, a_codeLength, a_bytes, b_starts, b_seen, b_done, b_heights, b_local, b_sure, b_objType, b_objField, b_marked, b_global, b_fMethod, b_fPc, b_fHigh, b_fLocal, b_fEntry)) C ⟨tc, mc, h, ⟨rfl, rfl, rfl, rfl, rfl, rfl, rfl, rfl, rfl, rfl, rfl, rfl, rfl, C.1, C.2.1, C.2.2.1, HH⟩, rfl, Or.inr (Or.inl ⟨rfl, rfl⟩)⟩ (fun post J => x_pre f_flowHeight f_latestResult a_typeAbove a_fieldSet a_methodType a_methodName a_codeLength a_bytes a_isStart a_heightAt a_kindsAt a_isWaiting a_flowKinds a_globals a_objectType a_fieldValue a_isMarked a_frameMethod a_frameAt a_frameHeight a_slots g_result g_bad g_high g_refs g_code b_ownField b_starts b_seen b_done b_heights b_local b_sure b_objType b_objField b_marked b_global b_fMethod b_fPc b_fHigh b_fLocal b_fEntry C ?_) (fun post J => y_pre f_flowHeight f_latestResult a_typeAbove a_fieldSet a_methodType a_methodName a_codeLength a_bytes a_isStart a_heightAt a_kindsAt a_isWaiting a_flowKinds a_globals a_objectType a_fieldValue a_isMarked a_frameMethod a_frameAt a_frameHeight a_slots g_result g_bad g_high g_refs g_code b_ownField b_starts b_seen b_done b_heights b_local b_sure b_objType b_objField b_marked b_global b_fMethod b_fPc b_fHigh b_fLocal b_fEntry C (fun b1 hb1 hb2 => ?_))
    · exact br_t (by decide) (br_f (by decide) (br_f (by decide) (ex_calc (nI tc) (nI mc) 1 (-1) f_flowHeight (nI (f + 1)) (nI t) (-1) f_latestResult a_typeAbove a_fieldSet a_methodType a_methodName a_codeLength a_bytes a_isStart a_heightAt a_kindsAt a_isWaiting a_flowKinds a_globals a_objectType a_fieldValue a_isMarked a_frameMethod a_frameAt a_frameHeight a_slots (by omega) q18 (by omega) q5 (br_t (by decide) (br_t z0 (x206 (nI tc) (nI mc) 1 (-1) f_flowHeight (nI (f + 1)) (nI t) 1 2 a_typeAbove a_fieldSet a_methodType a_methodName a_codeLength a_bytes a_isStart a_heightAt a_kindsAt a_isWaiting a_flowKinds a_globals a_objectType a_fieldValue a_isMarked a_frameMethod a_frameAt (upd (upd a_frameHeight f (nI (hc - 1))) f (nI (hc - 1 - 1))) a_slots (by omega) q16 J))))))
    · rw [if_pos (by omega), if_pos x1]
      exact br_f (by decide) (br_f (by decide) (br_f (by decide) (br_f (by decide) (br_f (by decide) (br_f (by decide) (br_f (by decide) (br_f (by decide) (br_f (by decide) (br_t (by decide) (br_t (by rw [← ev]; exact z0) J))))))))))
  · refine so_top f_flowHeight f_latestResult a_typeAbove a_fieldSet a_methodType a_methodName a_codeLength a_bytes a_isStart a_heightAt a_kindsAt a_isWaiting a_flowKinds a_globals a_objectType a_fieldValue a_isMarked a_frameMethod a_frameAt a_frameHeight a_slots g_result g_bad g_high g_refs g_code b_ownField b_starts b_seen b_done b_heights b_local b_sure b_objType b_objField b_marked b_global b_fMethod b_fPc b_fHigh b_fLocal b_fEntry (t' := t) (p' := p + 1) (h' := h) (gl' := a_globals) (ot' := a_objectType) (fv' := a_fieldValue) (xm' := a_isMarked) (fa' := upd a_frameAt f (nI (p + 1))) (fh' := upd (upd (upd a_frameHeight f (nI (hc - 1))) f (nI (hc - 1 - 1))) f (nI (hc - 1 - 1 + 1))) (sl' := upd a_slots (f * 9 + 4 + (hc - 1 - 1)) (a_slots (f * 9 + 4 + (hc - 1 - 1)) / a_slots (f * 9 + 4 + (hc - 1)))) (yg' := b_global) (yt' := b_objType) (yf' := b_objField) (ym' := b_marked) (yp' := upd b_fPc f (nI (p + 1))) (yh' := upd (upd b_fHigh f (nI (hc - 2))) f (nI (hc - 2 + 1))) (yl' := b_fLocal) (ye' := upd b_fEntry (f * 6 + (hc - 2)) (b_fEntry (f * 6 + (hc - 2)) / b_fEntry (f * 6 + (hc - 1)))) C (Or.inr ⟨by decide, by decide, rfl⟩) (Nat.le_refl _) HH (Or.inl ⟨rfl, by omega⟩) (fun i hi => pk_un (by omega)) (fun i hi => pk_un (by omega)) ?e5 ?e6 ?e7 ?e8 pk_us pk_us ?t5 ?t6 ?hs ?gX ?gY
    case e5 => exact fun i hi => by rw [pk_un (by omega), pk_un (by omega), pk_un (by omega)]
    case e6 => exact fun i hi => by rw [pk_un (by omega), pk_un (by omega)]
    case e7 => exact fun i s hi hs => pk_un (by omega)
    case e8 => exact fun i s hi hs => ysl_e (by omega) hs (fun w => by omega)
    case t5 => rw [pk_us]; rfl
    case t6 => rw [pk_us]; rfl
    case hs =>
      have e := vr_push (f := f) (g := 2) (ax := a_slots (f * 9 + 4 + (hc - 1 - 1)) / a_slots (f * 9 + 4 + (hc - 1))) (ay := b_fEntry (f * 6 + (hc - 2)) / b_fEntry (f * 6 + (hc - 1))) q21 rfl (by decide) q5 (Nat.le_refl h) q23 rfl (by rw [ev, show hc - 1 - 1 = hc - 2 by omega, eu]; exact v_i)
      rw [show is_tk 7 = 2 from rfl] at e
      rw [show hc - 1 - 1 = hc - 2 by omega] at e ⊢
      exact e
    case gX =>
      intro post J
      refine x_pre f_flowHeight f_latestResult a_typeAbove a_fieldSet a_methodType a_methodName a_codeLength a_bytes a_isStart a_heightAt a_kindsAt a_isWaiting a_flowKinds a_globals a_objectType a_fieldValue a_isMarked a_frameMethod a_frameAt a_frameHeight a_slots g_result g_bad g_high g_refs g_code b_ownField b_starts b_seen b_done b_heights b_local b_sure b_objType b_objField b_marked b_global b_fMethod b_fPc b_fHigh b_fLocal b_fEntry C ?_
      exact br_t (by decide) (br_f (by decide) (br_f (by decide) (ex_calc (nI tc) (nI mc) 1 (-1) f_flowHeight (nI (f + 1)) (nI t) (-1) f_latestResult a_typeAbove a_fieldSet a_methodType a_methodName a_codeLength a_bytes a_isStart a_heightAt a_kindsAt a_isWaiting a_flowKinds a_globals a_objectType a_fieldValue a_isMarked a_frameMethod a_frameAt a_frameHeight a_slots (by omega) q18 (by omega) q5 (br_t (by decide) (br_f z0 (br_f (by decide) (br_f (by decide) (br_f (by decide) (br_f (by decide) (br_f (by decide) (br_t (by decide) (⟨z0, nm_e (ex_push (nI tc) (nI mc) 1 (-1) f_flowHeight (nI (f + 1)) (nI t) (-1) f_latestResult a_typeAbove a_fieldSet a_methodType a_methodName a_codeLength a_bytes a_isStart a_heightAt a_kindsAt a_isWaiting a_flowKinds a_globals a_objectType a_fieldValue a_isMarked a_frameMethod a_frameAt _ a_slots (by omega) pk_us (by omega) (x206 (nI tc) (nI mc) 1 (-1) f_flowHeight (nI (f + 1)) (nI t) (-1) f_latestResult a_typeAbove a_fieldSet a_methodType a_methodName a_codeLength a_bytes a_isStart a_heightAt a_kindsAt a_isWaiting a_flowKinds a_globals a_objectType a_fieldValue a_isMarked a_frameMethod a_frameAt _ _ (by omega) q16 J))⟩))))))))))))
    case gY =>
      intro post J
      refine y_pre f_flowHeight f_latestResult a_typeAbove a_fieldSet a_methodType a_methodName a_codeLength a_bytes a_isStart a_heightAt a_kindsAt a_isWaiting a_flowKinds a_globals a_objectType a_fieldValue a_isMarked a_frameMethod a_frameAt a_frameHeight a_slots g_result g_bad g_high g_refs g_code b_ownField b_starts b_seen b_done b_heights b_local b_sure b_objType b_objField b_marked b_global b_fMethod b_fPc b_fHigh b_fLocal b_fEntry C (fun b1 hb1 hb2 => ?_)
      have z1 : ¬ b_fEntry (f * 6 + (hc - 1)) = 0 := by rw [← ev]; exact z0
      rw [if_pos (by omega), if_pos x1]
      exact br_f (by decide) (br_f (by decide) (br_f (by decide) (br_f (by decide) (br_f (by decide) (br_f (by decide) (br_f (by decide) (br_f (by decide) (br_f (by decide) (br_t (by decide) (br_f z1 (br_f (by decide) (br_f (by decide) (br_f (by decide) (br_f (by decide) (br_f (by decide) (br_f (by decide) (br_t (by decide) (br_f z1 ⟨z1, nm_e (br_f (by decide) (br_f (by decide) (br_f (by decide) (br_f (by decide) (br_f (by decide) (br_f (by decide) (br_f (by decide) (br_f (by decide) (br_f (by decide) (br_f (by decide) (br_t (by decide) (e688p (nI tc) (nI mc) (-1) g_result 1 g_bad g_high g_refs (nI (f + 1)) (nI t) g_code a_typeAbove b_ownField a_methodType a_methodName a_codeLength a_bytes b_starts b_seen b_done b_heights b_local b_sure b_objType b_objField b_marked b_global b_fMethod b_fPc b_fHigh b_fLocal b_fEntry (tk := 2) (by omega) q6 (by decide) q19 (by omega) q5 J))))))))))))⟩))))))))))))))))))
theorem op_10 (f_flowHeight f_latestResult : Int32) (a_typeAbove a_fieldSet a_methodType a_methodName a_codeLength a_bytes a_isStart a_heightAt a_kindsAt a_isWaiting a_flowKinds a_globals a_objectType a_fieldValue a_isMarked a_frameMethod a_frameAt a_frameHeight a_slots : Nat → Int32) (g_result g_bad g_high g_refs g_code : Int32) (b_ownField b_starts : Nat → Int32) (b_seen b_done : Nat → Int64) (b_heights b_local b_sure b_objType b_objField b_marked b_global b_fMethod b_fPc b_fHigh b_fLocal b_fEntry : Nat → Int32) {tc mc h f t m p hc o b nm : Nat} {mF pF hF : Nat → Nat} (C : CT tc mc h f t m p hc o b nm a_typeAbove a_fieldSet b_ownField a_methodName a_codeLength a_bytes a_heightAt a_kindsAt b_sure a_globals a_objectType a_fieldValue b_global b_objType b_objField a_frameMethod a_frameAt a_frameHeight a_slots b_fMethod b_fPc b_fHigh b_fLocal b_fEntry mF pF hF) (eo : o = 10) : SO (64 * t + sp pF (f + 1)) (nI tc, nI mc, 1, -1, f_flowHeight, nI (f + 1), nI t, -1, f_latestResult, a_typeAbove, a_fieldSet, a_methodType, a_methodName, a_codeLength, a_bytes, a_isStart, a_heightAt, a_kindsAt, a_isWaiting, a_flowKinds, a_globals, a_objectType, a_fieldValue, a_isMarked, a_frameMethod, a_frameAt, a_frameHeight, a_slots) (nI tc, nI mc, -1, g_result, 1, g_bad, g_high, g_refs, nI (f + 1), nI t, g_code, a_typeAbove, b_ownField, a_methodType, a_methodName, a_codeLength, a_bytes, b_starts, b_seen, b_done, b_heights, b_local, b_sure, b_objType, b_objField, b_marked, b_global, b_fMethod, b_fPc, b_fHigh, b_fLocal, b_fEntry) := by
  obtain ⟨q1, q2, q3, q4, q5, q6, q7, q8, q9, q10, q11, q12, q13, q14, q15, q16, q17, q18, q19, q20, q21, q22, q23, q24⟩ := ct_F C
  have f6 := C.2.2.2.2.1
  have HH := C.2.2.2.1
  subst eo
  rcases Nat.lt_or_ge p b with fw | bk
  · refine so_top f_flowHeight f_latestResult a_typeAbove a_fieldSet a_methodType a_methodName a_codeLength a_bytes a_isStart a_heightAt a_kindsAt a_isWaiting a_flowKinds a_globals a_objectType a_fieldValue a_isMarked a_frameMethod a_frameAt a_frameHeight a_slots g_result g_bad g_high g_refs g_code b_ownField b_starts b_seen b_done b_heights b_local b_sure b_objType b_objField b_marked b_global b_fMethod b_fPc b_fHigh b_fLocal b_fEntry (t' := t) (p' := b) (h' := h) (gl' := a_globals) (ot' := a_objectType) (fv' := a_fieldValue) (xm' := a_isMarked) (fa' := upd a_frameAt f (nI (b))) (fh' := a_frameHeight) (sl' := a_slots) (yg' := b_global) (yt' := b_objType) (yf' := b_objField) (ym' := b_marked) (yp' := upd b_fPc f (nI (b))) (yh' := upd b_fHigh f (nI (hc - 0))) (yl' := b_fLocal) (ye' := b_fEntry) C (Or.inl ⟨by decide, rfl⟩) (Nat.le_refl _) HH (Or.inl ⟨rfl, fw⟩) (fun i hi => pk_un (by omega)) (fun i hi => pk_un (by omega)) ?e5 ?e6 ?e7 ?e8 pk_us pk_us ?t5 ?t6 ?hs ?gX ?gY
    case e5 => exact fun i hi => rfl
    case e6 => exact fun i hi => pk_un (by omega)
    case e7 => exact fun i s hi hs => rfl
    case e8 => exact fun i s hi hs => rfl
    case t5 => exact q18
    case t6 => exact pk_us
    case hs => exact vr_none q21 rfl (by decide) (Nat.le_refl h) q23
    case gX =>
      intro post J
      refine x_pre f_flowHeight f_latestResult a_typeAbove a_fieldSet a_methodType a_methodName a_codeLength a_bytes a_isStart a_heightAt a_kindsAt a_isWaiting a_flowKinds a_globals a_objectType a_fieldValue a_isMarked a_frameMethod a_frameAt a_frameHeight a_slots g_result g_bad g_high g_refs g_code b_ownField b_starts b_seen b_done b_heights b_local b_sure b_objType b_objField b_marked b_global b_fMethod b_fPc b_fHigh b_fLocal b_fEntry C ?_
      exact br_f (by decide) (br_f (by decide) (br_t (by decide) (ex_jumpF (nI tc) (nI mc) 1 (-1) f_flowHeight (nI (f + 1)) (nI t) (-1) f_latestResult a_typeAbove a_fieldSet a_methodType a_methodName a_codeLength a_bytes a_isStart a_heightAt a_kindsAt a_isWaiting a_flowKinds a_globals a_objectType a_fieldValue a_isMarked a_frameMethod a_frameAt a_frameHeight a_slots (by omega) q16 q4 q7 fw J)))
    case gY =>
      intro post J
      refine y_pre f_flowHeight f_latestResult a_typeAbove a_fieldSet a_methodType a_methodName a_codeLength a_bytes a_isStart a_heightAt a_kindsAt a_isWaiting a_flowKinds a_globals a_objectType a_fieldValue a_isMarked a_frameMethod a_frameAt a_frameHeight a_slots g_result g_bad g_high g_refs g_code b_ownField b_starts b_seen b_done b_heights b_local b_sure b_objType b_objField b_marked b_global b_fMethod b_fPc b_fHigh b_fLocal b_fEntry C (fun b1 hb1 hb2 => ?_)
      rw [hb1 rfl]
      exact br_f (by decide) (br_f (by decide) (br_t (by decide) (br_t (nI_lt fw (by omega)) (br_t (nI_lt fw (by omega)) (br_f (by decide) (br_f (by decide) (br_f (by decide) (br_f (by decide) (br_f (by decide) (br_f (by decide) (br_f (by decide) (br_f (by decide) (br_f (by decide) (br_f (by decide) (br_f (by decide) (br_f (by decide) (br_f (by decide) (br_f (by decide) (br_f (by decide) (br_f (by decide) (br_f (by decide) (br_f (by decide) (br_f (by decide) (br_f (by decide) (br_f (by decide) (br_f (by decide) (br_f (by decide) (br_f (by decide) (br_f (by decide) (br_f (by decide) (br_f (by decide) (br_f (by decide) (br_f (by decide) (br_f (by decide) (br_f (by decide) (e688n (nI tc) (nI mc) (-1) g_result 1 g_bad g_high g_refs (nI (f + 1)) (nI t) g_code a_typeAbove b_ownField a_methodType a_methodName a_codeLength a_bytes b_starts b_seen b_done b_heights b_local b_sure b_objType b_objField b_marked b_global b_fMethod b_fPc b_fHigh b_fLocal b_fEntry (tk := 0) (by omega) q6 (by decide) q19 (by omega) q5 J))))))))))))))))))))))))))))))))))))
  · have nl : ¬ nI p < nI b := nI_nlt bk (by omega)
    rcases Nat.eq_zero_or_pos t with tz | tp
    · subst tz
      refine so_end f_flowHeight f_latestResult a_typeAbove a_fieldSet a_methodType a_methodName a_codeLength a_bytes a_isStart a_heightAt a_kindsAt a_isWaiting a_flowKinds a_globals a_objectType a_fieldValue a_isMarked a_frameMethod a_frameAt a_frameHeight a_slots g_result g_bad g_high g_refs g_code b_ownField b_starts b_seen b_done b_heights b_local b_sure b_objType b_objField b_marked b_global b_fMethod b_fPc b_fHigh b_fLocal b_fEntry (h' := h) (r := 2) (u' := (nI tc, nI mc, 1, -1, f_flowHeight, nI (f + 1), nI 0, 2, 0, a_typeAbove, a_fieldSet, a_methodType, a_methodName, a_codeLength, a_bytes, a_isStart, a_heightAt, a_kindsAt, a_isWaiting, a_flowKinds, a_globals, a_objectType, a_fieldValue, a_isMarked, a_frameMethod, a_frameAt, a_frameHeight, a_slots)) (v' := (nI tc, nI mc, -1, g_result, 1, g_bad, g_high, g_refs, nI (f + 1), nI 0, g_code, a_typeAbove, b_ownField, a_methodType, a_methodName, a_codeLength, a_bytes, b_starts, b_seen, b_done, b_heights, b_local, b_sure, b_objType, b_objField, b_marked, b_global, b_fMethod, b_fPc, b_fHigh, b_fLocal, b_fEntry)) C ⟨tc, mc, h, ⟨rfl, rfl, rfl, rfl, rfl, rfl, rfl, rfl, rfl, rfl, rfl, rfl, rfl, C.1, C.2.1, C.2.2.1, HH⟩, rfl, Or.inr (Or.inr ⟨rfl, rfl⟩)⟩ (fun post J => x_pre f_flowHeight f_latestResult a_typeAbove a_fieldSet a_methodType a_methodName a_codeLength a_bytes a_isStart a_heightAt a_kindsAt a_isWaiting a_flowKinds a_globals a_objectType a_fieldValue a_isMarked a_frameMethod a_frameAt a_frameHeight a_slots g_result g_bad g_high g_refs g_code b_ownField b_starts b_seen b_done b_heights b_local b_sure b_objType b_objField b_marked b_global b_fMethod b_fPc b_fHigh b_fLocal b_fEntry C ?_) (fun post J => y_pre f_flowHeight f_latestResult a_typeAbove a_fieldSet a_methodType a_methodName a_codeLength a_bytes a_isStart a_heightAt a_kindsAt a_isWaiting a_flowKinds a_globals a_objectType a_fieldValue a_isMarked a_frameMethod a_frameAt a_frameHeight a_slots g_result g_bad g_high g_refs g_code b_ownField b_starts b_seen b_done b_heights b_local b_sure b_objType b_objField b_marked b_global b_fMethod b_fPc b_fHigh b_fLocal b_fEntry C (fun b1 hb1 hb2 => ?_))
      · exact br_f (by decide) (br_f (by decide) (br_t (by decide) (ex_jump0 (nI tc) (nI mc) 1 (-1) f_flowHeight (nI (f + 1)) (-1) f_latestResult a_typeAbove a_fieldSet a_methodType a_methodName a_codeLength a_bytes a_isStart a_heightAt a_kindsAt a_isWaiting a_flowKinds a_globals a_objectType a_fieldValue a_isMarked a_frameMethod a_frameAt a_frameHeight a_slots (by omega) q16 q4 q7 bk J)))
      · rw [hb1 rfl]
        exact br_f (by decide) (br_f (by decide) (br_t (by decide) (br_f nl (br_t rfl J))))
    · obtain ⟨t, rfl⟩ : ∃ k, t = k + 1 := ⟨t - 1, by omega⟩
      have t100 := C.2.2.2.2.2.1
      refine so_top f_flowHeight f_latestResult a_typeAbove a_fieldSet a_methodType a_methodName a_codeLength a_bytes a_isStart a_heightAt a_kindsAt a_isWaiting a_flowKinds a_globals a_objectType a_fieldValue a_isMarked a_frameMethod a_frameAt a_frameHeight a_slots g_result g_bad g_high g_refs g_code b_ownField b_starts b_seen b_done b_heights b_local b_sure b_objType b_objField b_marked b_global b_fMethod b_fPc b_fHigh b_fLocal b_fEntry (t' := t) (p' := b) (h' := h) (gl' := a_globals) (ot' := a_objectType) (fv' := a_fieldValue) (xm' := a_isMarked) (fa' := upd a_frameAt f (nI (b))) (fh' := a_frameHeight) (sl' := a_slots) (yg' := b_global) (yt' := b_objType) (yf' := b_objField) (ym' := b_marked) (yp' := upd b_fPc f (nI (b))) (yh' := upd b_fHigh f (nI (hc - 0))) (yl' := b_fLocal) (ye' := b_fEntry) C (Or.inl ⟨by decide, rfl⟩) (Nat.le_refl _) HH (Or.inr rfl) (fun i hi => pk_un (by omega)) (fun i hi => pk_un (by omega)) ?e5 ?e6 ?e7 ?e8 pk_us pk_us ?t5 ?t6 ?hs ?gX ?gY
      case e5 => exact fun i hi => rfl
      case e6 => exact fun i hi => pk_un (by omega)
      case e7 => exact fun i s hi hs => rfl
      case e8 => exact fun i s hi hs => rfl
      case t5 => exact q18
      case t6 => exact pk_us
      case hs => exact vr_none q21 rfl (by decide) (Nat.le_refl h) q23
      case gX =>
        intro post J
        refine x_pre f_flowHeight f_latestResult a_typeAbove a_fieldSet a_methodType a_methodName a_codeLength a_bytes a_isStart a_heightAt a_kindsAt a_isWaiting a_flowKinds a_globals a_objectType a_fieldValue a_isMarked a_frameMethod a_frameAt a_frameHeight a_slots g_result g_bad g_high g_refs g_code b_ownField b_starts b_seen b_done b_heights b_local b_sure b_objType b_objField b_marked b_global b_fMethod b_fPc b_fHigh b_fLocal b_fEntry C ?_
        exact br_f (by decide) (br_f (by decide) (br_t (by decide) (ex_jumpB (nI tc) (nI mc) 1 (-1) f_flowHeight (nI (f + 1)) (-1) f_latestResult a_typeAbove a_fieldSet a_methodType a_methodName a_codeLength a_bytes a_isStart a_heightAt a_kindsAt a_isWaiting a_flowKinds a_globals a_objectType a_fieldValue a_isMarked a_frameMethod a_frameAt a_frameHeight a_slots (by omega) q16 q4 q7 (by omega) bk J)))
      case gY =>
        intro post J
        refine y_pre f_flowHeight f_latestResult a_typeAbove a_fieldSet a_methodType a_methodName a_codeLength a_bytes a_isStart a_heightAt a_kindsAt a_isWaiting a_flowKinds a_globals a_objectType a_fieldValue a_isMarked a_frameMethod a_frameAt a_frameHeight a_slots g_result g_bad g_high g_refs g_code b_ownField b_starts b_seen b_done b_heights b_local b_sure b_objType b_objField b_marked b_global b_fMethod b_fPc b_fHigh b_fLocal b_fEntry C (fun b1 hb1 hb2 => ?_)
        rw [hb1 rfl]
        exact br_f (by decide) (br_f (by decide) (br_t (by decide) (br_f nl (br_f (nI_ne0 (by omega) (by omega)) (br_f nl (nm_r (nI_pred t) (br_f (by decide) (br_f (by decide) (br_f (by decide) (br_f (by decide) (br_f (by decide) (br_f (by decide) (br_f (by decide) (br_f (by decide) (br_f (by decide) (br_f (by decide) (br_f (by decide) (br_f (by decide) (br_f (by decide) (br_f (by decide) (br_f (by decide) (br_f (by decide) (br_f (by decide) (br_f (by decide) (br_f (by decide) (br_f (by decide) (br_f (by decide) (br_f (by decide) (br_f (by decide) (br_f (by decide) (br_f (by decide) (br_f (by decide) (br_f (by decide) (br_f (by decide) (br_f (by decide) (br_f (by decide) (br_f (by decide) (e688n (nI tc) (nI mc) (-1) g_result 1 g_bad g_high g_refs (nI (f + 1)) (nI t) g_code a_typeAbove b_ownField a_methodType a_methodName a_codeLength a_bytes b_starts b_seen b_done b_heights b_local b_sure b_objType b_objField b_marked b_global b_fMethod b_fPc b_fHigh b_fLocal b_fEntry (tk := 0) (by omega) q6 (by decide) q19 (by omega) q5 J))))))))))))))))))))))))))))))))))))))
theorem op_11 (f_flowHeight f_latestResult : Int32) (a_typeAbove a_fieldSet a_methodType a_methodName a_codeLength a_bytes a_isStart a_heightAt a_kindsAt a_isWaiting a_flowKinds a_globals a_objectType a_fieldValue a_isMarked a_frameMethod a_frameAt a_frameHeight a_slots : Nat → Int32) (g_result g_bad g_high g_refs g_code : Int32) (b_ownField b_starts : Nat → Int32) (b_seen b_done : Nat → Int64) (b_heights b_local b_sure b_objType b_objField b_marked b_global b_fMethod b_fPc b_fHigh b_fLocal b_fEntry : Nat → Int32) {tc mc h f t m p hc o b nm : Nat} {mF pF hF : Nat → Nat} (C : CT tc mc h f t m p hc o b nm a_typeAbove a_fieldSet b_ownField a_methodName a_codeLength a_bytes a_heightAt a_kindsAt b_sure a_globals a_objectType a_fieldValue b_global b_objType b_objField a_frameMethod a_frameAt a_frameHeight a_slots b_fMethod b_fPc b_fHigh b_fLocal b_fEntry mF pF hF) (eo : o = 11) : SO (64 * t + sp pF (f + 1)) (nI tc, nI mc, 1, -1, f_flowHeight, nI (f + 1), nI t, -1, f_latestResult, a_typeAbove, a_fieldSet, a_methodType, a_methodName, a_codeLength, a_bytes, a_isStart, a_heightAt, a_kindsAt, a_isWaiting, a_flowKinds, a_globals, a_objectType, a_fieldValue, a_isMarked, a_frameMethod, a_frameAt, a_frameHeight, a_slots) (nI tc, nI mc, -1, g_result, 1, g_bad, g_high, g_refs, nI (f + 1), nI t, g_code, a_typeAbove, b_ownField, a_methodType, a_methodName, a_codeLength, a_bytes, b_starts, b_seen, b_done, b_heights, b_local, b_sure, b_objType, b_objField, b_marked, b_global, b_fMethod, b_fPc, b_fHigh, b_fLocal, b_fEntry) := by
  obtain ⟨q1, q2, q3, q4, q5, q6, q7, q8, q9, q10, q11, q12, q13, q14, q15, q16, q17, q18, q19, q20, q21, q22, q23, q24⟩ := ct_F C
  have f6 := C.2.2.2.2.1
  have HH := C.2.2.2.1
  subst eo
  have x1 : 1 ≤ hc := q21.1
  have ev := v_int (top_v q23 x1) (q22 _ (by omega)) (q21.2.1 (by decide))
  by_cases z0 : a_slots (f * 9 + 4 + (hc - 1)) = 0
  · rcases Nat.lt_or_ge p b with fw | bk
    · refine so_top f_flowHeight f_latestResult a_typeAbove a_fieldSet a_methodType a_methodName a_codeLength a_bytes a_isStart a_heightAt a_kindsAt a_isWaiting a_flowKinds a_globals a_objectType a_fieldValue a_isMarked a_frameMethod a_frameAt a_frameHeight a_slots g_result g_bad g_high g_refs g_code b_ownField b_starts b_seen b_done b_heights b_local b_sure b_objType b_objField b_marked b_global b_fMethod b_fPc b_fHigh b_fLocal b_fEntry (t' := t) (p' := b) (h' := h) (gl' := a_globals) (ot' := a_objectType) (fv' := a_fieldValue) (xm' := a_isMarked) (fa' := upd a_frameAt f (nI (b))) (fh' := upd a_frameHeight f (nI (hc - 1))) (sl' := a_slots) (yg' := b_global) (yt' := b_objType) (yf' := b_objField) (ym' := b_marked) (yp' := upd b_fPc f (nI (b))) (yh' := upd b_fHigh f (nI (hc - 1))) (yl' := b_fLocal) (ye' := b_fEntry) C (Or.inl ⟨by decide, rfl⟩) (Nat.le_refl _) HH (Or.inl ⟨rfl, fw⟩) (fun i hi => pk_un (by omega)) (fun i hi => pk_un (by omega)) ?e5 ?e6 ?e7 ?e8 pk_us pk_us ?t5 ?t6 ?hs ?gX ?gY
      case e5 => exact fun i hi => pk_un (by omega)
      case e6 => exact fun i hi => pk_un (by omega)
      case e7 => exact fun i s hi hs => rfl
      case e8 => exact fun i s hi hs => rfl
      case t5 => exact pk_us
      case t6 => exact pk_us
      case hs => exact vr_none q21 rfl (by decide) (Nat.le_refl h) q23
      case gX =>
        intro post J
        refine x_pre f_flowHeight f_latestResult a_typeAbove a_fieldSet a_methodType a_methodName a_codeLength a_bytes a_isStart a_heightAt a_kindsAt a_isWaiting a_flowKinds a_globals a_objectType a_fieldValue a_isMarked a_frameMethod a_frameAt a_frameHeight a_slots g_result g_bad g_high g_refs g_code b_ownField b_starts b_seen b_done b_heights b_local b_sure b_objType b_objField b_marked b_global b_fMethod b_fPc b_fHigh b_fLocal b_fEntry C ?_
        exact br_f (by decide) (br_f (by decide) (br_f (by decide) (br_t (by decide) (ex_jz (nI tc) (nI mc) 1 (-1) f_flowHeight (nI (f + 1)) (nI (t)) (-1) f_latestResult a_typeAbove a_fieldSet a_methodType a_methodName a_codeLength a_bytes a_isStart a_heightAt a_kindsAt a_isWaiting a_flowKinds a_globals a_objectType a_fieldValue a_isMarked a_frameMethod a_frameAt a_frameHeight a_slots (by omega) q18 q16 q4 x1 q5 (fun _ => ex_jumpF (nI tc) (nI mc) 1 (-1) f_flowHeight (nI (f + 1)) (nI t) (-1) f_latestResult a_typeAbove a_fieldSet a_methodType a_methodName a_codeLength a_bytes a_isStart a_heightAt a_kindsAt a_isWaiting a_flowKinds a_globals a_objectType a_fieldValue a_isMarked a_frameMethod a_frameAt (upd a_frameHeight f (nI (hc - 1))) a_slots (by omega) q16 q4 q7 fw J) (fun z => absurd z0 z)))))
      case gY =>
        intro post J
        refine y_pre f_flowHeight f_latestResult a_typeAbove a_fieldSet a_methodType a_methodName a_codeLength a_bytes a_isStart a_heightAt a_kindsAt a_isWaiting a_flowKinds a_globals a_objectType a_fieldValue a_isMarked a_frameMethod a_frameAt a_frameHeight a_slots g_result g_bad g_high g_refs g_code b_ownField b_starts b_seen b_done b_heights b_local b_sure b_objType b_objField b_marked b_global b_fMethod b_fPc b_fHigh b_fLocal b_fEntry C (fun b1 hb1 hb2 => ?_)
        rw [hb1 rfl]
        rw [if_pos x1]
        have yz : b_fEntry (f * 6 + (hc - 1)) = 0 := by rw [← ev]; exact z0
        exact br_f (by decide) (br_f (by decide) (br_f (by decide) (br_t (by decide) (br_t yz (br_t (nI_lt fw (by omega)) (br_t (nI_lt fw (by omega)) (br_f (by decide) (br_f (by decide) (br_f (by decide) (br_f (by decide) (br_f (by decide) (br_f (by decide) (br_f (by decide) (br_f (by decide) (br_f (by decide) (br_f (by decide) (br_f (by decide) (br_f (by decide) (br_f (by decide) (br_f (by decide) (br_f (by decide) (br_f (by decide) (br_f (by decide) (br_f (by decide) (br_f (by decide) (br_f (by decide) (br_f (by decide) (br_f (by decide) (br_f (by decide) (br_f (by decide) (br_f (by decide) (br_f (by decide) (br_f (by decide) (br_t (by decide) (e688n (nI tc) (nI mc) (-1) g_result 1 g_bad g_high g_refs (nI (f + 1)) (nI t) g_code a_typeAbove b_ownField a_methodType a_methodName a_codeLength a_bytes b_starts b_seen b_done b_heights b_local b_sure b_objType b_objField b_marked b_global b_fMethod b_fPc b_fHigh b_fLocal b_fEntry (tk := 1) (by omega) q6 (by decide) q19 (by omega) q5 J)))))))))))))))))))))))))))))))))))
    · have nl : ¬ nI p < nI b := nI_nlt bk (by omega)
      rcases Nat.eq_zero_or_pos t with tz | tp
      · subst tz
        refine so_end f_flowHeight f_latestResult a_typeAbove a_fieldSet a_methodType a_methodName a_codeLength a_bytes a_isStart a_heightAt a_kindsAt a_isWaiting a_flowKinds a_globals a_objectType a_fieldValue a_isMarked a_frameMethod a_frameAt a_frameHeight a_slots g_result g_bad g_high g_refs g_code b_ownField b_starts b_seen b_done b_heights b_local b_sure b_objType b_objField b_marked b_global b_fMethod b_fPc b_fHigh b_fLocal b_fEntry (h' := h) (r := 2) (u' := (nI tc, nI mc, 1, -1, f_flowHeight, nI (f + 1), nI 0, 2, 0, a_typeAbove, a_fieldSet, a_methodType, a_methodName, a_codeLength, a_bytes, a_isStart, a_heightAt, a_kindsAt, a_isWaiting, a_flowKinds, a_globals, a_objectType, a_fieldValue, a_isMarked, a_frameMethod, a_frameAt, upd a_frameHeight f (nI (hc - 1)), a_slots)) (v' := (nI tc, nI mc, -1, g_result, 1, g_bad, g_high, g_refs, nI (f + 1), nI 0, g_code, a_typeAbove, b_ownField, a_methodType, a_methodName, a_codeLength, a_bytes, b_starts, b_seen, b_done, b_heights, b_local, b_sure, b_objType, b_objField, b_marked, b_global, b_fMethod, b_fPc, b_fHigh, b_fLocal, b_fEntry)) C ⟨tc, mc, h, ⟨rfl, rfl, rfl, rfl, rfl, rfl, rfl, rfl, rfl, rfl, rfl, rfl, rfl, C.1, C.2.1, C.2.2.1, HH⟩, rfl, Or.inr (Or.inr ⟨rfl, rfl⟩)⟩ (fun post J => x_pre f_flowHeight f_latestResult a_typeAbove a_fieldSet a_methodType a_methodName a_codeLength a_bytes a_isStart a_heightAt a_kindsAt a_isWaiting a_flowKinds a_globals a_objectType a_fieldValue a_isMarked a_frameMethod a_frameAt a_frameHeight a_slots g_result g_bad g_high g_refs g_code b_ownField b_starts b_seen b_done b_heights b_local b_sure b_objType b_objField b_marked b_global b_fMethod b_fPc b_fHigh b_fLocal b_fEntry C ?_) (fun post J => y_pre f_flowHeight f_latestResult a_typeAbove a_fieldSet a_methodType a_methodName a_codeLength a_bytes a_isStart a_heightAt a_kindsAt a_isWaiting a_flowKinds a_globals a_objectType a_fieldValue a_isMarked a_frameMethod a_frameAt a_frameHeight a_slots g_result g_bad g_high g_refs g_code b_ownField b_starts b_seen b_done b_heights b_local b_sure b_objType b_objField b_marked b_global b_fMethod b_fPc b_fHigh b_fLocal b_fEntry C (fun b1 hb1 hb2 => ?_))
        · exact br_f (by decide) (br_f (by decide) (br_f (by decide) (br_t (by decide) (ex_jz (nI tc) (nI mc) 1 (-1) f_flowHeight (nI (f + 1)) (nI (0)) (-1) f_latestResult a_typeAbove a_fieldSet a_methodType a_methodName a_codeLength a_bytes a_isStart a_heightAt a_kindsAt a_isWaiting a_flowKinds a_globals a_objectType a_fieldValue a_isMarked a_frameMethod a_frameAt a_frameHeight a_slots (by omega) q18 q16 q4 x1 q5 (fun _ => ex_jump0 (nI tc) (nI mc) 1 (-1) f_flowHeight (nI (f + 1)) (-1) f_latestResult a_typeAbove a_fieldSet a_methodType a_methodName a_codeLength a_bytes a_isStart a_heightAt a_kindsAt a_isWaiting a_flowKinds a_globals a_objectType a_fieldValue a_isMarked a_frameMethod a_frameAt (upd a_frameHeight f (nI (hc - 1))) a_slots (by omega) q16 q4 q7 bk J) (fun z => absurd z0 z)))))
        · rw [hb1 rfl]
          rw [if_pos x1]
          have yz : b_fEntry (f * 6 + (hc - 1)) = 0 := by rw [← ev]; exact z0
          exact br_f (by decide) (br_f (by decide) (br_f (by decide) (br_t (by decide) (br_t yz (br_f nl (br_t rfl J))))))
      · obtain ⟨t, rfl⟩ : ∃ k, t = k + 1 := ⟨t - 1, by omega⟩
        have t100 := C.2.2.2.2.2.1
        refine so_top f_flowHeight f_latestResult a_typeAbove a_fieldSet a_methodType a_methodName a_codeLength a_bytes a_isStart a_heightAt a_kindsAt a_isWaiting a_flowKinds a_globals a_objectType a_fieldValue a_isMarked a_frameMethod a_frameAt a_frameHeight a_slots g_result g_bad g_high g_refs g_code b_ownField b_starts b_seen b_done b_heights b_local b_sure b_objType b_objField b_marked b_global b_fMethod b_fPc b_fHigh b_fLocal b_fEntry (t' := t) (p' := b) (h' := h) (gl' := a_globals) (ot' := a_objectType) (fv' := a_fieldValue) (xm' := a_isMarked) (fa' := upd a_frameAt f (nI (b))) (fh' := upd a_frameHeight f (nI (hc - 1))) (sl' := a_slots) (yg' := b_global) (yt' := b_objType) (yf' := b_objField) (ym' := b_marked) (yp' := upd b_fPc f (nI (b))) (yh' := upd b_fHigh f (nI (hc - 1))) (yl' := b_fLocal) (ye' := b_fEntry) C (Or.inl ⟨by decide, rfl⟩) (Nat.le_refl _) HH (Or.inr rfl) (fun i hi => pk_un (by omega)) (fun i hi => pk_un (by omega)) ?e5 ?e6 ?e7 ?e8 pk_us pk_us ?t5 ?t6 ?hs ?gX ?gY
        case e5 => exact fun i hi => pk_un (by omega)
        case e6 => exact fun i hi => pk_un (by omega)
        case e7 => exact fun i s hi hs => rfl
        case e8 => exact fun i s hi hs => rfl
        case t5 => exact pk_us
        case t6 => exact pk_us
        case hs => exact vr_none q21 rfl (by decide) (Nat.le_refl h) q23
        case gX =>
          intro post J
          refine x_pre f_flowHeight f_latestResult a_typeAbove a_fieldSet a_methodType a_methodName a_codeLength a_bytes a_isStart a_heightAt a_kindsAt a_isWaiting a_flowKinds a_globals a_objectType a_fieldValue a_isMarked a_frameMethod a_frameAt a_frameHeight a_slots g_result g_bad g_high g_refs g_code b_ownField b_starts b_seen b_done b_heights b_local b_sure b_objType b_objField b_marked b_global b_fMethod b_fPc b_fHigh b_fLocal b_fEntry C ?_
          exact br_f (by decide) (br_f (by decide) (br_f (by decide) (br_t (by decide) (ex_jz (nI tc) (nI mc) 1 (-1) f_flowHeight (nI (f + 1)) (nI (t + 1)) (-1) f_latestResult a_typeAbove a_fieldSet a_methodType a_methodName a_codeLength a_bytes a_isStart a_heightAt a_kindsAt a_isWaiting a_flowKinds a_globals a_objectType a_fieldValue a_isMarked a_frameMethod a_frameAt a_frameHeight a_slots (by omega) q18 q16 q4 x1 q5 (fun _ => ex_jumpB (nI tc) (nI mc) 1 (-1) f_flowHeight (nI (f + 1)) (-1) f_latestResult a_typeAbove a_fieldSet a_methodType a_methodName a_codeLength a_bytes a_isStart a_heightAt a_kindsAt a_isWaiting a_flowKinds a_globals a_objectType a_fieldValue a_isMarked a_frameMethod a_frameAt (upd a_frameHeight f (nI (hc - 1))) a_slots (by omega) q16 q4 q7 (by omega) bk J) (fun z => absurd z0 z)))))
        case gY =>
          intro post J
          refine y_pre f_flowHeight f_latestResult a_typeAbove a_fieldSet a_methodType a_methodName a_codeLength a_bytes a_isStart a_heightAt a_kindsAt a_isWaiting a_flowKinds a_globals a_objectType a_fieldValue a_isMarked a_frameMethod a_frameAt a_frameHeight a_slots g_result g_bad g_high g_refs g_code b_ownField b_starts b_seen b_done b_heights b_local b_sure b_objType b_objField b_marked b_global b_fMethod b_fPc b_fHigh b_fLocal b_fEntry C (fun b1 hb1 hb2 => ?_)
          rw [hb1 rfl]
          rw [if_pos x1]
          have yz : b_fEntry (f * 6 + (hc - 1)) = 0 := by rw [← ev]; exact z0
          exact br_f (by decide) (br_f (by decide) (br_f (by decide) (br_t (by decide) (br_t yz (br_f nl (br_f (nI_ne0 (by omega) (by omega)) (br_f nl (nm_r (nI_pred t) (br_f (by decide) (br_f (by decide) (br_f (by decide) (br_f (by decide) (br_f (by decide) (br_f (by decide) (br_f (by decide) (br_f (by decide) (br_f (by decide) (br_f (by decide) (br_f (by decide) (br_f (by decide) (br_f (by decide) (br_f (by decide) (br_f (by decide) (br_f (by decide) (br_f (by decide) (br_f (by decide) (br_f (by decide) (br_f (by decide) (br_f (by decide) (br_f (by decide) (br_f (by decide) (br_f (by decide) (br_f (by decide) (br_f (by decide) (br_f (by decide) (br_t (by decide) (e688n (nI tc) (nI mc) (-1) g_result 1 g_bad g_high g_refs (nI (f + 1)) (nI t) g_code a_typeAbove b_ownField a_methodType a_methodName a_codeLength a_bytes b_starts b_seen b_done b_heights b_local b_sure b_objType b_objField b_marked b_global b_fMethod b_fPc b_fHigh b_fLocal b_fEntry (tk := 1) (by omega) q6 (by decide) q19 (by omega) q5 J)))))))))))))))))))))))))))))))))))))
  · refine so_top f_flowHeight f_latestResult a_typeAbove a_fieldSet a_methodType a_methodName a_codeLength a_bytes a_isStart a_heightAt a_kindsAt a_isWaiting a_flowKinds a_globals a_objectType a_fieldValue a_isMarked a_frameMethod a_frameAt a_frameHeight a_slots g_result g_bad g_high g_refs g_code b_ownField b_starts b_seen b_done b_heights b_local b_sure b_objType b_objField b_marked b_global b_fMethod b_fPc b_fHigh b_fLocal b_fEntry (t' := t) (p' := p + 2) (h' := h) (gl' := a_globals) (ot' := a_objectType) (fv' := a_fieldValue) (xm' := a_isMarked) (fa' := upd a_frameAt f (nI (p + 2))) (fh' := upd a_frameHeight f (nI (hc - 1))) (sl' := a_slots) (yg' := b_global) (yt' := b_objType) (yf' := b_objField) (ym' := b_marked) (yp' := upd b_fPc f (nI (p + 2))) (yh' := upd b_fHigh f (nI (hc - 1))) (yl' := b_fLocal) (ye' := b_fEntry) C (Or.inr ⟨by decide, by decide, rfl⟩) (Nat.le_refl _) HH (Or.inl ⟨rfl, by omega⟩) (fun i hi => pk_un (by omega)) (fun i hi => pk_un (by omega)) ?e5 ?e6 ?e7 ?e8 pk_us pk_us ?t5 ?t6 ?hs ?gX ?gY
    case e5 => exact fun i hi => pk_un (by omega)
    case e6 => exact fun i hi => pk_un (by omega)
    case e7 => exact fun i s hi hs => rfl
    case e8 => exact fun i s hi hs => rfl
    case t5 => exact pk_us
    case t6 => exact pk_us
    case hs => exact vr_none q21 rfl (by decide) (Nat.le_refl h) q23
    case gX =>
      intro post J
      refine x_pre f_flowHeight f_latestResult a_typeAbove a_fieldSet a_methodType a_methodName a_codeLength a_bytes a_isStart a_heightAt a_kindsAt a_isWaiting a_flowKinds a_globals a_objectType a_fieldValue a_isMarked a_frameMethod a_frameAt a_frameHeight a_slots g_result g_bad g_high g_refs g_code b_ownField b_starts b_seen b_done b_heights b_local b_sure b_objType b_objField b_marked b_global b_fMethod b_fPc b_fHigh b_fLocal b_fEntry C ?_
      exact br_f (by decide) (br_f (by decide) (br_f (by decide) (br_t (by decide) (ex_jz (nI tc) (nI mc) 1 (-1) f_flowHeight (nI (f + 1)) (nI t) (-1) f_latestResult a_typeAbove a_fieldSet a_methodType a_methodName a_codeLength a_bytes a_isStart a_heightAt a_kindsAt a_isWaiting a_flowKinds a_globals a_objectType a_fieldValue a_isMarked a_frameMethod a_frameAt a_frameHeight a_slots (by omega) q18 q16 q4 x1 q5 (fun z => absurd z z0) (fun _ => J)))))
    case gY =>
      intro post J
      refine y_pre f_flowHeight f_latestResult a_typeAbove a_fieldSet a_methodType a_methodName a_codeLength a_bytes a_isStart a_heightAt a_kindsAt a_isWaiting a_flowKinds a_globals a_objectType a_fieldValue a_isMarked a_frameMethod a_frameAt a_frameHeight a_slots g_result g_bad g_high g_refs g_code b_ownField b_starts b_seen b_done b_heights b_local b_sure b_objType b_objField b_marked b_global b_fMethod b_fPc b_fHigh b_fLocal b_fEntry C (fun b1 hb1 hb2 => ?_)
      rw [if_pos x1]
      have yz : ¬ b_fEntry (f * 6 + (hc - 1)) = 0 := by rw [← ev]; exact z0
      exact br_f (by decide) (br_f (by decide) (br_f (by decide) (br_t (by decide) (br_f yz (br_f (by decide) (br_f (by decide) (br_f (by decide) (br_f (by decide) (br_f (by decide) (br_f (by decide) (br_f (by decide) (br_f (by decide) (br_f (by decide) (br_f (by decide) (br_f (by decide) (br_f (by decide) (br_f (by decide) (br_f (by decide) (br_f (by decide) (br_f (by decide) (br_f (by decide) (br_f (by decide) (br_f (by decide) (br_f (by decide) (br_f (by decide) (br_f (by decide) (br_f (by decide) (br_f (by decide) (br_f (by decide) (br_f (by decide) (br_f (by decide) (br_t (by decide) (e688n (nI tc) (nI mc) (-1) g_result 1 g_bad g_high g_refs (nI (f + 1)) (nI t) g_code a_typeAbove b_ownField a_methodType a_methodName a_codeLength a_bytes b_starts b_seen b_done b_heights b_local b_sure b_objType b_objField b_marked b_global b_fMethod b_fPc b_fHigh b_fLocal b_fEntry (tk := 1) (by omega) q6 (by decide) q19 (by omega) q5 J)))))))))))))))))))))))))))))))))
end
section
/-! ===== IS ===== -/
theorem is_chain (f_typeCount f_methodCount f_linked f_faultPlace f_flowHeight f_active f_ticksLeft f_outcome f_latestResult : Int32) (a_typeAbove a_fieldSet a_methodType a_methodName a_codeLength a_bytes a_isStart a_heightAt a_kindsAt a_isWaiting a_flowKinds a_globals a_objectType a_fieldValue a_isMarked a_frameMethod a_frameAt a_frameHeight a_slots : Nat → Int32) (g_types g_methods g_place g_result g_linked g_bad g_high g_refs g_active g_ticks g_code : Int32) (b_ownField b_mType b_mName b_mLength b_bytes b_starts : Nat → Int32) (b_seen b_done : Nat → Int64) (b_heights b_local b_sure b_objType b_objField b_marked b_global b_fMethod b_fPc b_fHigh b_fLocal b_fEntry : Nat → Int32) {tc mc b : Nat} {fs own mN mL by' : Nat → Int32} (P : rl_P tc mc a_typeAbove fs own mN mL by') (hb : b < 5) : ∀ t, t < tc → ∃ z : Bool, (∀ (post : Int32 → Prop) up n, up + t ≤ 4 → t + 2 ≤ n → post (b01 z) → wX_isOfType_9 post (nI b) f_typeCount f_methodCount f_linked f_faultPlace f_flowHeight f_active f_ticksLeft f_outcome f_latestResult a_typeAbove a_fieldSet a_methodType a_methodName a_codeLength a_bytes a_isStart a_heightAt a_kindsAt a_isWaiting a_flowKinds a_globals a_objectType a_fieldValue a_isMarked a_frameMethod a_frameAt a_frameHeight a_slots n (nI t) (nI up)) ∧ (∀ (post : Int32 → Prop) n, t + 2 ≤ n → post (b01 z) → wY_below_13 post (nI b) g_types g_methods g_place g_result g_linked g_bad g_high g_refs g_active g_ticks g_code a_typeAbove b_ownField b_mType b_mName b_mLength b_bytes b_starts b_seen b_done b_heights b_local b_sure b_objType b_objField b_marked b_global b_fMethod b_fPc b_fHigh b_fLocal b_fEntry n (nI t)) := by
  have h5 := P.1
  have hab := P.2.2.1
  intro t
  induction t using Nat.strongRecOn with
  | ind t ih =>
    intro ht
    have nm : ¬ nI t = -1 := of_eq_false (gm_m1 (by omega))
    by_cases e : t = b
    · subst e
      refine ⟨true, fun post up n h1 h2 J => ?_, fun post n h2 J => ?_⟩
      · obtain ⟨n, rfl⟩ : ∃ k, n = k + 1 := ⟨n - 1, by omega⟩
        unfold wX_isOfType_9 wX_isOfType_38
        exact br_f (nI_ge (b := 5) (by omega) (by decide)) (br_f nm (br_t rfl (br_t rfl J)))
      · obtain ⟨n, rfl⟩ : ∃ k, n = k + 1 := ⟨n - 1, by omega⟩
        unfold wY_below_13
        exact br_f (nI_pos (by omega)) (br_t rfl J)
    · have ne : ¬ nI t = nI b := fun z => e (gp_inj (by omega) (by omega) z)
      rcases hab t ht with ea | ⟨a, ha, ea⟩
      · refine ⟨false, fun post up n h1 h2 J => ?_, fun post n h2 J => ?_⟩
        · obtain ⟨n, rfl⟩ : ∃ k, n = k + 2 := ⟨n - 2, by omega⟩
          have nb : ¬ (-1 : Int32) = nI b := fun z => gp_m1n (a := b) (by omega) z.symm
          unfold wX_isOfType_9
          refine br_f (nI_ge (b := 5) (by omega) (by decide)) (br_f nm (br_f ne ⟨vp_in_nI (by omega) (by omega), ?_⟩))
          rw [nI_clamp (by omega), ea]
          refine nm_e (nm_e ?_)
          unfold wX_isOfType_9 wX_isOfType_38
          exact ⟨fun _ => br_f nb J, fun _ => br_t rfl (br_f nb J)⟩
        · obtain ⟨n, rfl⟩ : ∃ k, n = k + 2 := ⟨n - 2, by omega⟩
          unfold wY_below_13
          refine br_f (nI_pos (by omega)) (br_f ne ⟨vp_in_nI (by omega) (by omega), ?_⟩)
          rw [nI_clamp (by omega), ea]
          refine nm_e ?_
          unfold wY_below_13
          exact br_t (by decide) J
      · obtain ⟨z, k1, k2⟩ := ih a ha (by omega)
        refine ⟨z, fun post up n h1 h2 J => ?_, fun post n h2 J => ?_⟩
        · obtain ⟨n, rfl⟩ : ∃ k, n = k + 1 := ⟨n - 1, by omega⟩
          unfold wX_isOfType_9
          refine br_f (nI_ge (b := 5) (by omega) (by decide)) (br_f nm (br_f ne ⟨vp_in_nI (by omega) (by omega), ?_⟩))
          rw [nI_clamp (by omega), ea]
          exact nm_e (nm_r (nI_1 up) (k1 post (up + 1) n (by omega) (by omega) J))
        · obtain ⟨n, rfl⟩ : ∃ k, n = k + 1 := ⟨n - 1, by omega⟩
          unfold wY_below_13
          refine br_f (nI_pos (by omega)) (br_f ne ⟨vp_in_nI (by omega) (by omega), ?_⟩)
          rw [nI_clamp (by omega), ea]
          exact nm_e (k2 post n (by omega) J)
theorem is_both (f_typeCount f_methodCount f_linked f_faultPlace f_flowHeight f_active f_ticksLeft f_outcome f_latestResult : Int32) (a_typeAbove a_fieldSet a_methodType a_methodName a_codeLength a_bytes a_isStart a_heightAt a_kindsAt a_isWaiting a_flowKinds a_globals a_objectType a_fieldValue a_isMarked a_frameMethod a_frameAt a_frameHeight a_slots : Nat → Int32) (g_types g_methods g_place g_result g_linked g_bad g_high g_refs g_active g_ticks g_code : Int32) (b_ownField b_mType b_mName b_mLength b_bytes b_starts : Nat → Int32) (b_seen b_done : Nat → Int64) (b_heights b_local b_sure b_objType b_objField b_marked b_global b_fMethod b_fPc b_fHigh b_fLocal b_fEntry : Nat → Int32) {tc mc h b r : Nat} {fs own mN mL by' gl fv yg yf : Nat → Int32} (P : rl_P tc mc a_typeAbove fs own mN mL by') (H : rl_H h tc fs gl a_objectType fv yg b_objType yf) (hb : b < 5) (hr : r ≤ h) : ∃ z : Bool, (∀ post : Int32 → Prop, post (b01 z) → wpX_isOfType post (f_typeCount, f_methodCount, f_linked, f_faultPlace, f_flowHeight, f_active, f_ticksLeft, f_outcome, f_latestResult, a_typeAbove, a_fieldSet, a_methodType, a_methodName, a_codeLength, a_bytes, a_isStart, a_heightAt, a_kindsAt, a_isWaiting, a_flowKinds, a_globals, a_objectType, a_fieldValue, a_isMarked, a_frameMethod, a_frameAt, a_frameHeight, a_slots) (nI r) (nI b)) ∧ (∀ post : Int32 → Prop, post (b01 z) → wpY_below post (g_types, g_methods, g_place, g_result, g_linked, g_bad, g_high, g_refs, g_active, g_ticks, g_code, a_typeAbove, b_ownField, b_mType, b_mName, b_mLength, b_bytes, b_starts, b_seen, b_done, b_heights, b_local, b_sure, b_objType, b_objField, b_marked, b_global, b_fMethod, b_fPc, b_fHigh, b_fLocal, b_fEntry) (yR r) (nI b)) := by
  have h5 := P.1
  cases r with
  | zero =>
    refine ⟨false, fun post J => ?_, fun post J => ?_⟩
    · have nb : ¬ (-1 : Int32) = nI b := fun z => gp_m1n (a := b) (by omega) z.symm
      unfold wpX_isOfType
      refine ev_toN0 f_typeCount f_methodCount f_linked f_faultPlace f_flowHeight f_active f_ticksLeft f_outcome f_latestResult a_typeAbove a_fieldSet a_methodType a_methodName a_codeLength a_bytes a_isStart a_heightAt a_kindsAt a_isWaiting a_flowKinds a_globals a_objectType a_fieldValue a_isMarked a_frameMethod a_frameAt a_frameHeight a_slots ⟨1, ?_⟩
      unfold wX_isOfType_9 wX_isOfType_38
      exact br_f (by decide) (br_t rfl (br_f nb J))
    · rw [yR_0]
      exact br_f (by decide) J
  | succ o =>
    have h10 := H.1
    obtain ⟨t, ht, t1, t2, -⟩ := H.2.2 o (by omega)
    obtain ⟨z, k1, k2⟩ := is_chain f_typeCount f_methodCount f_linked f_faultPlace f_flowHeight f_active f_ticksLeft f_outcome f_latestResult a_typeAbove a_fieldSet a_methodType a_methodName a_codeLength a_bytes a_isStart a_heightAt a_kindsAt a_isWaiting a_flowKinds a_globals a_objectType a_fieldValue a_isMarked a_frameMethod a_frameAt a_frameHeight a_slots g_types g_methods g_place g_result g_linked g_bad g_high g_refs g_active g_ticks g_code b_ownField b_mType b_mName b_mLength b_bytes b_starts b_seen b_done b_heights b_local b_sure b_objType b_objField b_marked b_global b_fMethod b_fPc b_fHigh b_fLocal b_fEntry P hb t ht
    refine ⟨z, fun post J => ?_, fun post J => ?_⟩
    · unfold wpX_isOfType
      refine ev_toN f_typeCount f_methodCount f_linked f_faultPlace f_flowHeight f_active f_ticksLeft f_outcome f_latestResult a_typeAbove a_fieldSet a_methodType a_methodName a_codeLength a_bytes a_isStart a_heightAt a_kindsAt a_isWaiting a_flowKinds a_globals a_objectType a_fieldValue a_isMarked a_frameMethod a_frameAt a_frameHeight a_slots (by omega) ?_
      rw [t1]
      exact ⟨t + 2, k1 post 0 (t + 2) (by omega) (by omega) J⟩
    · rw [yR_s]
      unfold wpY_below
      refine br_t (nI_pos' (by omega)) ⟨vp_in_nI (by omega) (by omega), ?_⟩
      rw [nI_clamp (by omega), t2]
      exact nm_e ⟨t + 2, k2 post _ (by omega) J⟩
/-! ===== the method of a name ===== -/
theorem ym_9 (g_types g_place g_result g_linked g_bad g_high g_refs g_active g_ticks g_code : Int32) (b_above b_ownField b_mType b_mName b_mLength b_bytes b_starts : Nat → Int32) (b_seen b_done : Nat → Int64) (b_heights b_local b_sure b_objType b_objField b_marked b_global b_fMethod b_fPc b_fHigh b_fLocal b_fEntry : Nat → Int32) {post : Int32 → Prop} {J2 : Int32 → Prop} {mc t : Nat} {y ab : Int32} (h8 : mc ≤ 8) (ht : t < 5) (ea : b_above t = ab) : ∀ d j, j + d = mc → (∀ m, fo b_mType b_mName (nI t) y d j = some m → post (nI m)) → (fo b_mType b_mName (nI t) y d j = none → J2 ab) → wY_methodOf_9 post J2 y (nI t) g_types (nI mc) g_place g_result g_linked g_bad g_high g_refs g_active g_ticks g_code b_above b_ownField b_mType b_mName b_mLength b_bytes b_starts b_seen b_done b_heights b_local b_sure b_objType b_objField b_marked b_global b_fMethod b_fPc b_fHigh b_fLocal b_fEntry (d + 1) (nI j) := by
  intro d
  induction d with
  | zero =>
    intro j hj K1 K2
    cases (show j = mc by omega)
    unfold wY_methodOf_9
    refine br_t (nI_le (by omega) (by omega)) ⟨vp_in_nI ht (by omega), ?_⟩
    rw [nI_clamp (by omega), ea]
    exact nm_e (K2 rfl)
  | succ d ih =>
    intro j hj K1 K2
    rw [fo_s] at K1 K2
    unfold wY_methodOf_9
    simp (disch := omega) only [nI_clamp, gm_clL, gm_in, gm_inL, gm_ml, gm_al, gm_la, gm_sl, nI_add, pk_mul, gm_eqL, gm_leL, gm_ltL, gm_Lle, gm_Llt, gm_eq, gm_le, gm_lt, gm_m1, forall_eq, true_and, Nat.not_lt_zero, Nat.add_sub_cancel, gm_z2, gm_z3, gm_z9, gm_z16, gm_z18, gm_z32, gm_z36, gm_z64, gm_z1152, not_true_eq_false, not_false_eq_true, false_implies, true_implies, and_true, implies_true]
    refine ⟨fun z => absurd z (by omega), fun _ => ?_⟩
    by_cases e1 : b_mType j = nI t
    · refine br_t e1 ?_
      by_cases e2 : b_mName j = y
      · rw [if_pos ⟨e1, e2⟩] at K1
        exact br_t e2 (K1 j rfl)
      · rw [if_neg (fun z => e2 z.2)] at K1 K2
        exact br_f e2 (ih (j + 1) (by omega) K1 K2)
    · rw [if_neg (fun z => e1 z.1)] at K1 K2
      exact br_f e1 (ih (j + 1) (by omega) K1 K2)
theorem fm_chain (f_typeCount f_linked f_faultPlace f_flowHeight f_active f_ticksLeft f_outcome f_latestResult : Int32) (a_typeAbove a_fieldSet a_methodType a_methodName a_codeLength a_bytes a_isStart a_heightAt a_kindsAt a_isWaiting a_flowKinds a_globals a_objectType a_fieldValue a_isMarked a_frameMethod a_frameAt a_frameHeight a_slots : Nat → Int32) (g_types g_place g_result g_linked g_bad g_high g_refs g_active g_ticks g_code : Int32) (b_ownField b_mLength b_bytes b_starts : Nat → Int32) (b_seen b_done : Nat → Int64) (b_heights b_local b_sure b_objType b_objField b_marked b_global b_fMethod b_fPc b_fHigh b_fLocal b_fEntry : Nat → Int32) {tc mc : Nat} {y : Int32} {fs own mL by' : Nat → Int32} (P : rl_P tc mc a_typeAbove fs own a_methodName mL by') : ∀ t, t < tc → ∃ r : Option Nat, (∀ m, r = some m → m < mc ∧ a_methodName m = y) ∧ (∀ (post : Int32 → Prop) up n, up + t ≤ 4 → t + 2 ≤ n → post (foE r) → wX_findMethod_8 post y f_typeCount (nI mc) f_linked f_faultPlace f_flowHeight f_active f_ticksLeft f_outcome f_latestResult a_typeAbove a_fieldSet a_methodType a_methodName a_codeLength a_bytes a_isStart a_heightAt a_kindsAt a_isWaiting a_flowKinds a_globals a_objectType a_fieldValue a_isMarked a_frameMethod a_frameAt a_frameHeight a_slots n (-1) (nI t) (nI up)) ∧ (∀ (post : Int32 → Prop) n, t + 2 ≤ n → post (foE r) → wY_methodOf_2 post y g_types (nI mc) g_place g_result g_linked g_bad g_high g_refs g_active g_ticks g_code a_typeAbove b_ownField a_methodType a_methodName b_mLength b_bytes b_starts b_seen b_done b_heights b_local b_sure b_objType b_objField b_marked b_global b_fMethod b_fPc b_fHigh b_fLocal b_fEntry n (nI t)) := by
  have h5 := P.1
  have h8 := P.2.1
  have hab := P.2.2.1
  intro t
  induction t using Nat.strongRecOn with
  | ind t ih =>
    intro ht
    have nmt : ¬ nI t = -1 := of_eq_false (gm_m1 (by omega))
    cases hf : fo a_methodType a_methodName (nI t) y mc 0 with
    | some m =>
      obtain ⟨-, m1, m2, m3⟩ := fo_some hf
      refine ⟨some m, fun m' e => by cases e; exact ⟨by omega, m3⟩, fun post up n h1 h2 J => ?_, fun post n h2 J => ?_⟩
      · obtain ⟨n, rfl⟩ : ∃ k, n = k + 2 := ⟨n - 2, by omega⟩
        unfold wX_findMethod_8
        refine br_f (nI_ge (b := 5) (by omega) (by decide)) (br_f nmt (br_t rfl (ev_findOwn f_typeCount f_linked f_faultPlace f_flowHeight f_active f_ticksLeft f_outcome f_latestResult a_typeAbove a_fieldSet a_methodType a_methodName a_codeLength a_bytes a_isStart a_heightAt a_kindsAt a_isWaiting a_flowKinds a_globals a_objectType a_fieldValue a_isMarked a_frameMethod a_frameAt a_frameHeight a_slots _ _ h8 ⟨vp_in_nI (by omega) (by omega), nm_e (nm_e ?_)⟩)))
        rw [hf]
        unfold wX_findMethod_8
        exact ⟨fun _ => J, fun _ => ⟨fun _ => J, fun _ => br_f (of_eq_false (gm_m1 (by omega))) J⟩⟩
      · obtain ⟨n, rfl⟩ : ∃ k, n = k + 1 := ⟨n - 1, by omega⟩
        unfold wY_methodOf_2
        exact br_f (nI_pos (by omega)) ⟨mc + 1, ym_9 g_types g_place g_result g_linked g_bad g_high g_refs g_active g_ticks g_code a_typeAbove b_ownField a_methodType a_methodName b_mLength b_bytes b_starts b_seen b_done b_heights b_local b_sure b_objType b_objField b_marked b_global b_fMethod b_fPc b_fHigh b_fLocal b_fEntry h8 (by omega) rfl mc 0 (by omega) (fun m' e => by rw [hf] at e; cases e; exact J) (fun e => by rw [hf] at e; exact nomatch e)⟩
    | none =>
      rcases hab t ht with ea | ⟨a, ha, ea⟩
      · refine ⟨none, (fun m' e => by exact nomatch e), fun post up n h1 h2 J => ?_, fun post n h2 J => ?_⟩
        · obtain ⟨n, rfl⟩ : ∃ k, n = k + 2 := ⟨n - 2, by omega⟩
          unfold wX_findMethod_8
          refine br_f (nI_ge (b := 5) (by omega) (by decide)) (br_f nmt (br_t rfl (ev_findOwn f_typeCount f_linked f_faultPlace f_flowHeight f_active f_ticksLeft f_outcome f_latestResult a_typeAbove a_fieldSet a_methodType a_methodName a_codeLength a_bytes a_isStart a_heightAt a_kindsAt a_isWaiting a_flowKinds a_globals a_objectType a_fieldValue a_isMarked a_frameMethod a_frameAt a_frameHeight a_slots _ _ h8 ⟨vp_in_nI (by omega) (by omega), ?_⟩)))
          rw [nI_clamp (by omega), ea, hf]
          refine nm_e (nm_e ?_)
          unfold wX_findMethod_8
          exact ⟨fun _ => J, fun _ => br_t rfl J⟩
        · obtain ⟨n, rfl⟩ : ∃ k, n = k + 2 := ⟨n - 2, by omega⟩
          unfold wY_methodOf_2
          refine br_f (nI_pos (by omega)) ⟨mc + 1, ym_9 g_types g_place g_result g_linked g_bad g_high g_refs g_active g_ticks g_code a_typeAbove b_ownField a_methodType a_methodName b_mLength b_bytes b_starts b_seen b_done b_heights b_local b_sure b_objType b_objField b_marked b_global b_fMethod b_fPc b_fHigh b_fLocal b_fEntry h8 (by omega) ea mc 0 (by omega) (fun m' e => by rw [hf] at e; exact nomatch e) (fun _ => ?_)⟩
          unfold wY_methodOf_2
          exact br_t (by decide) J
      · obtain ⟨r, k0, k1, k2⟩ := ih a ha (by omega)
        refine ⟨r, k0, fun post up n h1 h2 J => ?_, fun post n h2 J => ?_⟩
        · obtain ⟨n, rfl⟩ : ∃ k, n = k + 1 := ⟨n - 1, by omega⟩
          unfold wX_findMethod_8
          refine br_f (nI_ge (b := 5) (by omega) (by decide)) (br_f nmt (br_t rfl (ev_findOwn f_typeCount f_linked f_faultPlace f_flowHeight f_active f_ticksLeft f_outcome f_latestResult a_typeAbove a_fieldSet a_methodType a_methodName a_codeLength a_bytes a_isStart a_heightAt a_kindsAt a_isWaiting a_flowKinds a_globals a_objectType a_fieldValue a_isMarked a_frameMethod a_frameAt a_frameHeight a_slots _ _ h8 ⟨vp_in_nI (by omega) (by omega), ?_⟩)))
          rw [nI_clamp (by omega), ea, hf]
          exact nm_e (nm_r (nI_1 up) (k1 post (up + 1) n (by omega) (by omega) J))
        · obtain ⟨n, rfl⟩ : ∃ k, n = k + 1 := ⟨n - 1, by omega⟩
          unfold wY_methodOf_2
          exact br_f (nI_pos (by omega)) ⟨mc + 1, ym_9 g_types g_place g_result g_linked g_bad g_high g_refs g_active g_ticks g_code a_typeAbove b_ownField a_methodType a_methodName b_mLength b_bytes b_starts b_seen b_done b_heights b_local b_sure b_objType b_objField b_marked b_global b_fMethod b_fPc b_fHigh b_fLocal b_fEntry h8 (by omega) ea mc 0 (by omega) (fun m' e => by rw [hf] at e; exact nomatch e) (fun _ => k2 post n (by omega) J)⟩
theorem fm_find (f_typeCount f_linked f_faultPlace f_flowHeight f_active f_ticksLeft f_outcome f_latestResult : Int32) (a_typeAbove a_fieldSet a_methodType a_methodName a_codeLength a_bytes a_isStart a_heightAt a_kindsAt a_isWaiting a_flowKinds a_globals a_objectType a_fieldValue a_isMarked a_frameMethod a_frameAt a_frameHeight a_slots : Nat → Int32) (g_types g_place g_result g_linked g_bad g_high g_refs g_active g_ticks g_code : Int32) (b_ownField b_mLength b_bytes b_starts : Nat → Int32) (b_seen b_done : Nat → Int64) (b_heights b_local b_sure b_objType b_objField b_marked b_global b_fMethod b_fPc b_fHigh b_fLocal b_fEntry : Nat → Int32) {tc mc t : Nat} {y : Int32} {fs own mL by' : Nat → Int32} (P : rl_P tc mc a_typeAbove fs own a_methodName mL by') (ht : t < tc) : ∃ r : Option Nat, (∀ m, r = some m → m < mc ∧ a_methodName m = y) ∧ (∀ post : Int32 → Prop, post (foE r) → wpX_findMethod post (f_typeCount, nI mc, f_linked, f_faultPlace, f_flowHeight, f_active, f_ticksLeft, f_outcome, f_latestResult, a_typeAbove, a_fieldSet, a_methodType, a_methodName, a_codeLength, a_bytes, a_isStart, a_heightAt, a_kindsAt, a_isWaiting, a_flowKinds, a_globals, a_objectType, a_fieldValue, a_isMarked, a_frameMethod, a_frameAt, a_frameHeight, a_slots) (nI t) y) ∧ (∀ post : Int32 → Prop, post (foE r) → wpY_methodOf post (g_types, nI mc, g_place, g_result, g_linked, g_bad, g_high, g_refs, g_active, g_ticks, g_code, a_typeAbove, b_ownField, a_methodType, a_methodName, b_mLength, b_bytes, b_starts, b_seen, b_done, b_heights, b_local, b_sure, b_objType, b_objField, b_marked, b_global, b_fMethod, b_fPc, b_fHigh, b_fLocal, b_fEntry) (nI t) y) := by
  have h5 := P.1
  obtain ⟨r, k0, k1, k2⟩ := fm_chain f_typeCount f_linked f_faultPlace f_flowHeight f_active f_ticksLeft f_outcome f_latestResult a_typeAbove a_fieldSet a_methodType a_methodName a_codeLength a_bytes a_isStart a_heightAt a_kindsAt a_isWaiting a_flowKinds a_globals a_objectType a_fieldValue a_isMarked a_frameMethod a_frameAt a_frameHeight a_slots g_types g_place g_result g_linked g_bad g_high g_refs g_active g_ticks g_code b_ownField b_mLength b_bytes b_starts b_seen b_done b_heights b_local b_sure b_objType b_objField b_marked b_global b_fMethod b_fPc b_fHigh b_fLocal b_fEntry (y := y) P t ht
  exact ⟨r, k0, fun post J => ⟨t + 2, k1 post 0 _ (by omega) (by omega) J⟩, fun post J => ⟨t + 2, k2 post _ (by omega) J⟩⟩
/-! ===== roots out of frames ===== -/
theorem rt_FR {tc mc h n : Nat} {mL mN by' H K su fm fa fh sl ym yp yh yl ye fs gl ot fv yg yt yf ab own : Nat → Int32} {mF pF hF : Nat → Nat} (P : rl_P tc mc ab fs own mN mL by') (LK : rl_L tc mc mN mL by' H K su) (HH : rl_H h tc fs gl ot fv yg yt yf) (R : FR mc h n mL mN by' H K fm fa fh sl ym yp yh yl ye mF pF hF) :
    ∃ rv : Nat → Nat → Nat, RtOK n rv K su fm fa fh sl ym yp yh yl ye ∧ ∀ f s, rv f s ≤ h := by
  obtain ⟨r1, r2, r3⟩ := R
  have h10 := HH.1
  have h8 := P.2.1
  refine ⟨fun f s => @ite _ (f < n ∧ s < 4 + hF f ∧ K ((mF f * 32 + pF f) * 9 + s) = 4) (Classical.propDecidable _) (gm_n (sl (f * 9 + s))) 0, fun f hf => ?_, fun f s => ?_⟩
  · obtain ⟨a1, a2, a3, a4, a5, a6, a7, a8, a9, a10⟩ := r1 f hf
    have hL := (P.2.2.2.2.1 (mF f)).1
    have hp : ∃ hp, hp ≤ 5 ∧ hF f ≤ hp ∧ H (mF f * 32 + pF f) = nI hp := by
      by_cases e : f + 1 = n
      · exact ⟨hF f, a3, Nat.le_refl _, r3 f e⟩
      · obtain ⟨b1, b2, -⟩ := r2 f (by omega)
        exact ⟨hF f + 2, b1, by omega, b2⟩
    obtain ⟨hp, p1, p2, p3⟩ := hp
    obtain ⟨S, F, k0, k1, k2⟩ := LK _ a1
    obtain ⟨-, -, -, -, k5⟩ := k2 _ a2 hp p1 p3
    refine ⟨mF f, pF f, hF f, by omega, by omega, a3, a4, a5, a6, a7, a8, a9, fun s hs => ⟨k5 s (by omega), fun z => ?_, fun z => if_neg (fun w => z w.2.2)⟩, fun s hs => if_neg (fun w => by omega)⟩
    have hv := a10 s hs
    have e4 : gm_n (K ((mF f * 32 + pF f) * 9 + s)) = 4 := by rw [z]; rfl
    obtain ⟨r, c1, c2, c3⟩ := hv.1 e4
    dsimp only
    rw [if_pos ⟨hf, hs, z⟩, c2, gp_nI (by omega)]
    exact ⟨rfl, c3, by omega⟩
  · dsimp only
    split
    · rename_i z
      obtain ⟨z1, z2, z3⟩ := z
      obtain ⟨a1, a2, a3, a4, a5, a6, a7, a8, a9, a10⟩ := r1 f z1
      have e4 : gm_n (K ((mF f * 32 + pF f) * 9 + s)) = 4 := by rw [z3]; rfl
      obtain ⟨r, c1, c2, c3⟩ := (a10 s z2).1 e4
      rw [c2, gp_nI (by omega)]
      exact c1
    · omega
/-! ===== a field written ===== -/
theorem rl_Hp {h tc o t f : Nat} {fs gl ot fv yg yt yf : Nat → Int32} {x y : Int32} (H : rl_H h tc fs gl ot fv yg yt yf) (ho : o < h) (et : ot (o + 1) = nI t) (ht : t < tc) (h5 : tc ≤ 5) (hf : f < 16) (hb : bt (fs t) f = true) (v : VRm h (is_vk f) x y) : rl_H h tc fs gl ot (upd fv ((o + 1) * 16 + f) x) yg yt (upd yf (o * 16 + f) y) := by
  obtain ⟨a, b, c⟩ := H
  refine ⟨a, b, fun o' ho' => ?_⟩
  obtain ⟨t', ht', t1, t2, f1, f2⟩ := c o' ho'
  refine ⟨t', ht', t1, t2, fun g hg => ?_, fun g h8 h16 => ?_⟩
  · by_cases e : o' = o ∧ g = f
    · obtain ⟨rfl, rfl⟩ := e
      rw [pk_us, pk_us]
      exact v.2 (if_pos hg)
    · rw [pk_un (by omega), pk_un (by omega)]; exact f1 g hg
  · by_cases e : o' = o ∧ g = f
    · obtain ⟨rfl, rfl⟩ := e
      rw [pk_us, pk_us]
      obtain ⟨r, hr, e1, e2⟩ := v.1 (if_neg (by omega))
      refine ⟨r, hr, e1, e2, fun z => ?_⟩
      rw [t1] at et
      have := gp_inj (by omega) (by omega) et
      subst this
      rw [hb] at z
      exact nomatch z
    · rw [pk_un (by omega), pk_un (by omega)]; exact f2 g h8 h16
/-- a field read -/
theorem fd_v {h tc o t f : Nat} {fs gl ot fv yg yt yf : Nat → Int32} (H : rl_H h tc fs gl ot fv yg yt yf) (ho : o < h) (hf : f < 16) : VRm h (is_vk f) (fv ((o + 1) * 16 + f)) (yf (o * 16 + f)) := by
  obtain ⟨t', ht', t1, t2, f1, f2⟩ := H.2.2 o ho
  unfold is_vk
  by_cases h8 : f < 8
  · rw [if_pos h8, f1 f h8]; exact v_i
  · rw [if_neg h8]
    obtain ⟨r, hr, e1, e2, -⟩ := f2 f (by omega) hf
    rw [e1, e2]; exact v_r hr
end
section
theorem ex_test (f_typeCount f_methodCount f_linked f_faultPlace f_flowHeight f_active f_ticksLeft f_outcome f_latestResult : Int32) (a_typeAbove a_fieldSet a_methodType a_methodName a_codeLength a_bytes a_isStart a_heightAt a_kindsAt a_isWaiting a_flowKinds a_globals a_objectType a_fieldValue a_isMarked a_frameMethod a_frameAt a_frameHeight a_slots : Nat → Int32) {post : SX → Prop} {f h : Nat} {b : Int32} {z : Bool} (hf : f < 6) (hh : a_frameHeight f = nI h) (h1 : 1 ≤ h) (h5 : h ≤ 5) (K : ∀ post : Int32 → Prop, post (b01 z) → wpX_isOfType post (f_typeCount, f_methodCount, f_linked, f_faultPlace, f_flowHeight, f_active, f_ticksLeft, f_outcome, f_latestResult, a_typeAbove, a_fieldSet, a_methodType, a_methodName, a_codeLength, a_bytes, a_isStart, a_heightAt, a_kindsAt, a_isWaiting, a_flowKinds, a_globals, a_objectType, a_fieldValue, a_isMarked, a_frameMethod, a_frameAt, upd a_frameHeight f (nI (h - 1)), a_slots) (a_slots (f * 9 + 4 + (h - 1))) b) (J : post (f_typeCount, f_methodCount, f_linked, f_faultPlace, f_flowHeight, f_active, f_ticksLeft, f_outcome, f_latestResult, a_typeAbove, a_fieldSet, a_methodType, a_methodName, a_codeLength, a_bytes, a_isStart, a_heightAt, a_kindsAt, a_isWaiting, a_flowKinds, a_globals, a_objectType, a_fieldValue, a_isMarked, a_frameMethod, a_frameAt, upd (upd a_frameHeight f (nI (h - 1))) f (nI (h - 1 + 1)), upd a_slots (f * 9 + 4 + (h - 1)) (b01 z))) : wpX_testType post (f_typeCount, f_methodCount, f_linked, f_faultPlace, f_flowHeight, f_active, f_ticksLeft, f_outcome, f_latestResult, a_typeAbove, a_fieldSet, a_methodType, a_methodName, a_codeLength, a_bytes, a_isStart, a_heightAt, a_kindsAt, a_isWaiting, a_flowKinds, a_globals, a_objectType, a_fieldValue, a_isMarked, a_frameMethod, a_frameAt, a_frameHeight, a_slots) (nI f) b := by
  unfold wpX_testType
  refine ex_pop f_typeCount f_methodCount f_linked f_faultPlace f_flowHeight f_active f_ticksLeft f_outcome f_latestResult a_typeAbove a_fieldSet a_methodType a_methodName a_codeLength a_bytes a_isStart a_heightAt a_kindsAt a_isWaiting a_flowKinds a_globals a_objectType a_fieldValue a_isMarked a_frameMethod a_frameAt a_frameHeight a_slots hf hh h1 h5 (K _ ?_)
  unfold wX_testType_26
  cases z
  · exact br_t rfl (ex_push f_typeCount f_methodCount f_linked f_faultPlace f_flowHeight f_active f_ticksLeft f_outcome f_latestResult a_typeAbove a_fieldSet a_methodType a_methodName a_codeLength a_bytes a_isStart a_heightAt a_kindsAt a_isWaiting a_flowKinds a_globals a_objectType a_fieldValue a_isMarked a_frameMethod a_frameAt (upd a_frameHeight f (nI (h - 1))) a_slots hf pk_us (by omega) J)
  · exact br_f (by decide) (ex_push f_typeCount f_methodCount f_linked f_faultPlace f_flowHeight f_active f_ticksLeft f_outcome f_latestResult a_typeAbove a_fieldSet a_methodType a_methodName a_codeLength a_bytes a_isStart a_heightAt a_kindsAt a_isWaiting a_flowKinds a_globals a_objectType a_fieldValue a_isMarked a_frameMethod a_frameAt (upd a_frameHeight f (nI (h - 1))) a_slots hf pk_us (by omega) J)
theorem ex_fit0 (f_typeCount f_methodCount f_linked f_faultPlace f_flowHeight f_active f_ticksLeft f_outcome f_latestResult : Int32) (a_typeAbove a_fieldSet a_methodType a_methodName a_codeLength a_bytes a_isStart a_heightAt a_kindsAt a_isWaiting a_flowKinds a_globals a_objectType a_fieldValue a_isMarked a_frameMethod a_frameAt a_frameHeight a_slots : Nat → Int32) {post : Int32 → SX → Prop} {b : Int32} (J : post 0 (f_typeCount, f_methodCount, f_linked, f_faultPlace, f_flowHeight, f_active, f_ticksLeft, 1, 1, a_typeAbove, a_fieldSet, a_methodType, a_methodName, a_codeLength, a_bytes, a_isStart, a_heightAt, a_kindsAt, a_isWaiting, a_flowKinds, a_globals, a_objectType, a_fieldValue, a_isMarked, a_frameMethod, a_frameAt, a_frameHeight, a_slots)) : wpX_fieldIsThere post (f_typeCount, f_methodCount, f_linked, f_faultPlace, f_flowHeight, f_active, f_ticksLeft, f_outcome, f_latestResult, a_typeAbove, a_fieldSet, a_methodType, a_methodName, a_codeLength, a_bytes, a_isStart, a_heightAt, a_kindsAt, a_isWaiting, a_flowKinds, a_globals, a_objectType, a_fieldValue, a_isMarked, a_frameMethod, a_frameAt, a_frameHeight, a_slots) (nI 0) b := br_t rfl J
theorem ex_fit (f_typeCount f_methodCount f_linked f_faultPlace f_flowHeight f_active f_ticksLeft f_outcome f_latestResult : Int32) (a_typeAbove a_fieldSet a_methodType a_methodName a_codeLength a_bytes a_isStart a_heightAt a_kindsAt a_isWaiting a_flowKinds a_globals a_objectType a_fieldValue a_isMarked a_frameMethod a_frameAt a_frameHeight a_slots : Nat → Int32) {post : Int32 → SX → Prop} {o t b : Nat} (ho : o < 10) (ht : t < 5) (hb : b < 16) (et : a_objectType (o + 1) = nI t) (J0 : bt (a_fieldSet t) b = false → post 0 (f_typeCount, f_methodCount, f_linked, f_faultPlace, f_flowHeight, f_active, f_ticksLeft, 1, 3, a_typeAbove, a_fieldSet, a_methodType, a_methodName, a_codeLength, a_bytes, a_isStart, a_heightAt, a_kindsAt, a_isWaiting, a_flowKinds, a_globals, a_objectType, a_fieldValue, a_isMarked, a_frameMethod, a_frameAt, a_frameHeight, a_slots)) (J1 : bt (a_fieldSet t) b = true → post 1 (f_typeCount, f_methodCount, f_linked, f_faultPlace, f_flowHeight, f_active, f_ticksLeft, f_outcome, f_latestResult, a_typeAbove, a_fieldSet, a_methodType, a_methodName, a_codeLength, a_bytes, a_isStart, a_heightAt, a_kindsAt, a_isWaiting, a_flowKinds, a_globals, a_objectType, a_fieldValue, a_isMarked, a_frameMethod, a_frameAt, a_frameHeight, a_slots)) : wpX_fieldIsThere post (f_typeCount, f_methodCount, f_linked, f_faultPlace, f_flowHeight, f_active, f_ticksLeft, f_outcome, f_latestResult, a_typeAbove, a_fieldSet, a_methodType, a_methodName, a_codeLength, a_bytes, a_isStart, a_heightAt, a_kindsAt, a_isWaiting, a_flowKinds, a_globals, a_objectType, a_fieldValue, a_isMarked, a_frameMethod, a_frameAt, a_frameHeight, a_slots) (nI (o + 1)) (nI b) := by
  unfold wpX_fieldIsThere
  refine br_f (nI_ne0 (by omega) (by omega)) ⟨vp_in_nI (by omega) (by omega), ?_⟩
  rw [nI_clamp (by omega), et]
  refine ev_hasField f_typeCount f_methodCount f_linked f_faultPlace f_flowHeight f_active f_ticksLeft f_outcome f_latestResult a_typeAbove a_fieldSet a_methodType a_methodName a_codeLength a_bytes a_isStart a_heightAt a_kindsAt a_isWaiting a_flowKinds a_globals a_objectType a_fieldValue a_isMarked a_frameMethod a_frameAt a_frameHeight a_slots ht hb ?_
  cases hc : bt (a_fieldSet t) b
  · exact br_t rfl (J0 hc)
  · exact br_f (by decide) (J1 hc)
theorem ex_get (f_typeCount f_methodCount f_linked f_faultPlace f_flowHeight f_active f_ticksLeft f_outcome f_latestResult : Int32) (a_typeAbove a_fieldSet a_methodType a_methodName a_codeLength a_bytes a_isStart a_heightAt a_kindsAt a_isWaiting a_flowKinds a_globals a_objectType a_fieldValue a_isMarked a_frameMethod a_frameAt a_frameHeight a_slots : Nat → Int32) {post : SX → Prop} {f h r b : Nat} (hf : f < 6) (hh : a_frameHeight f = nI h) (h1 : 1 ≤ h) (h5 : h ≤ 5) (hr : r ≤ 10) (hb : b < 16) (er : a_slots (f * 9 + 4 + (h - 1)) = nI r) (J0 : r = 0 → post (f_typeCount, f_methodCount, f_linked, f_faultPlace, f_flowHeight, f_active, f_ticksLeft, 1, 1, a_typeAbove, a_fieldSet, a_methodType, a_methodName, a_codeLength, a_bytes, a_isStart, a_heightAt, a_kindsAt, a_isWaiting, a_flowKinds, a_globals, a_objectType, a_fieldValue, a_isMarked, a_frameMethod, a_frameAt, upd a_frameHeight f (nI (h - 1)), a_slots)) (J1 : ∀ o, r = o + 1 → ∃ t, t < 5 ∧ a_objectType (o + 1) = nI t ∧ (bt (a_fieldSet t) b = false → post (f_typeCount, f_methodCount, f_linked, f_faultPlace, f_flowHeight, f_active, f_ticksLeft, 1, 3, a_typeAbove, a_fieldSet, a_methodType, a_methodName, a_codeLength, a_bytes, a_isStart, a_heightAt, a_kindsAt, a_isWaiting, a_flowKinds, a_globals, a_objectType, a_fieldValue, a_isMarked, a_frameMethod, a_frameAt, upd a_frameHeight f (nI (h - 1)), a_slots)) ∧ (bt (a_fieldSet t) b = true → post (f_typeCount, f_methodCount, f_linked, f_faultPlace, f_flowHeight, f_active, f_ticksLeft, f_outcome, f_latestResult, a_typeAbove, a_fieldSet, a_methodType, a_methodName, a_codeLength, a_bytes, a_isStart, a_heightAt, a_kindsAt, a_isWaiting, a_flowKinds, a_globals, a_objectType, a_fieldValue, a_isMarked, a_frameMethod, a_frameAt, upd (upd a_frameHeight f (nI (h - 1))) f (nI (h - 1 + 1)), upd a_slots (f * 9 + 4 + (h - 1)) (a_fieldValue ((o + 1) * 16 + b))))) : wpX_getField post (f_typeCount, f_methodCount, f_linked, f_faultPlace, f_flowHeight, f_active, f_ticksLeft, f_outcome, f_latestResult, a_typeAbove, a_fieldSet, a_methodType, a_methodName, a_codeLength, a_bytes, a_isStart, a_heightAt, a_kindsAt, a_isWaiting, a_flowKinds, a_globals, a_objectType, a_fieldValue, a_isMarked, a_frameMethod, a_frameAt, a_frameHeight, a_slots) (nI f) (nI b) := by
  unfold wpX_getField
  refine ex_pop f_typeCount f_methodCount f_linked f_faultPlace f_flowHeight f_active f_ticksLeft f_outcome f_latestResult a_typeAbove a_fieldSet a_methodType a_methodName a_codeLength a_bytes a_isStart a_heightAt a_kindsAt a_isWaiting a_flowKinds a_globals a_objectType a_fieldValue a_isMarked a_frameMethod a_frameAt a_frameHeight a_slots hf hh h1 h5 ?_
  dsimp only
  rw [er]
  cases r with
  | zero => exact ex_fit0 f_typeCount f_methodCount f_linked f_faultPlace f_flowHeight f_active f_ticksLeft f_outcome f_latestResult a_typeAbove a_fieldSet a_methodType a_methodName a_codeLength a_bytes a_isStart a_heightAt a_kindsAt a_isWaiting a_flowKinds a_globals a_objectType a_fieldValue a_isMarked a_frameMethod a_frameAt (upd a_frameHeight f (nI (h - 1))) a_slots (br_t rfl (J0 rfl))
  | succ o =>
    obtain ⟨t, t1, t2, t3, t4⟩ := J1 o rfl
    refine ex_fit f_typeCount f_methodCount f_linked f_faultPlace f_flowHeight f_active f_ticksLeft f_outcome f_latestResult a_typeAbove a_fieldSet a_methodType a_methodName a_codeLength a_bytes a_isStart a_heightAt a_kindsAt a_isWaiting a_flowKinds a_globals a_objectType a_fieldValue a_isMarked a_frameMethod a_frameAt (upd a_frameHeight f (nI (h - 1))) a_slots (by omega) t1 hb t2 (fun z => br_t rfl (t3 z)) (fun z => br_f (by decide) ?_)
    have e : (nI (o + 1) * 16) + nI b = nI ((o + 1) * 16 + b) := by simp (disch := omega) only [gm_ml, nI_add]
    rw [e, nI_clamp (by omega)]
    exact ⟨vp_in_nI (by omega) (by omega), ex_push f_typeCount f_methodCount f_linked f_faultPlace f_flowHeight f_active f_ticksLeft f_outcome f_latestResult a_typeAbove a_fieldSet a_methodType a_methodName a_codeLength a_bytes a_isStart a_heightAt a_kindsAt a_isWaiting a_flowKinds a_globals a_objectType a_fieldValue a_isMarked a_frameMethod a_frameAt (upd a_frameHeight f (nI (h - 1))) a_slots hf pk_us (by omega) (t4 z)⟩
theorem ex_put (f_typeCount f_methodCount f_linked f_faultPlace f_flowHeight f_active f_ticksLeft f_outcome f_latestResult : Int32) (a_typeAbove a_fieldSet a_methodType a_methodName a_codeLength a_bytes a_isStart a_heightAt a_kindsAt a_isWaiting a_flowKinds a_globals a_objectType a_fieldValue a_isMarked a_frameMethod a_frameAt a_frameHeight a_slots : Nat → Int32) {post : SX → Prop} {f h r b : Nat} (hf : f < 6) (hh : a_frameHeight f = nI h) (h2 : 2 ≤ h) (h5 : h ≤ 5) (hr : r ≤ 10) (hb : b < 16) (er : a_slots (f * 9 + 4 + (h - 1 - 1)) = nI r) (J0 : r = 0 → post (f_typeCount, f_methodCount, f_linked, f_faultPlace, f_flowHeight, f_active, f_ticksLeft, 1, 1, a_typeAbove, a_fieldSet, a_methodType, a_methodName, a_codeLength, a_bytes, a_isStart, a_heightAt, a_kindsAt, a_isWaiting, a_flowKinds, a_globals, a_objectType, a_fieldValue, a_isMarked, a_frameMethod, a_frameAt, upd (upd a_frameHeight f (nI (h - 1))) f (nI (h - 1 - 1)), a_slots)) (J1 : ∀ o, r = o + 1 → ∃ t, t < 5 ∧ a_objectType (o + 1) = nI t ∧ (bt (a_fieldSet t) b = false → post (f_typeCount, f_methodCount, f_linked, f_faultPlace, f_flowHeight, f_active, f_ticksLeft, 1, 3, a_typeAbove, a_fieldSet, a_methodType, a_methodName, a_codeLength, a_bytes, a_isStart, a_heightAt, a_kindsAt, a_isWaiting, a_flowKinds, a_globals, a_objectType, a_fieldValue, a_isMarked, a_frameMethod, a_frameAt, upd (upd a_frameHeight f (nI (h - 1))) f (nI (h - 1 - 1)), a_slots)) ∧ (bt (a_fieldSet t) b = true → post (f_typeCount, f_methodCount, f_linked, f_faultPlace, f_flowHeight, f_active, f_ticksLeft, f_outcome, f_latestResult, a_typeAbove, a_fieldSet, a_methodType, a_methodName, a_codeLength, a_bytes, a_isStart, a_heightAt, a_kindsAt, a_isWaiting, a_flowKinds, a_globals, a_objectType, upd a_fieldValue ((o + 1) * 16 + b) (a_slots (f * 9 + 4 + (h - 1))), a_isMarked, a_frameMethod, a_frameAt, upd (upd a_frameHeight f (nI (h - 1))) f (nI (h - 1 - 1)), a_slots))) : wpX_putField post (f_typeCount, f_methodCount, f_linked, f_faultPlace, f_flowHeight, f_active, f_ticksLeft, f_outcome, f_latestResult, a_typeAbove, a_fieldSet, a_methodType, a_methodName, a_codeLength, a_bytes, a_isStart, a_heightAt, a_kindsAt, a_isWaiting, a_flowKinds, a_globals, a_objectType, a_fieldValue, a_isMarked, a_frameMethod, a_frameAt, a_frameHeight, a_slots) (nI f) (nI b) := by
  unfold wpX_putField
  refine ex_pop f_typeCount f_methodCount f_linked f_faultPlace f_flowHeight f_active f_ticksLeft f_outcome f_latestResult a_typeAbove a_fieldSet a_methodType a_methodName a_codeLength a_bytes a_isStart a_heightAt a_kindsAt a_isWaiting a_flowKinds a_globals a_objectType a_fieldValue a_isMarked a_frameMethod a_frameAt a_frameHeight a_slots hf hh (by omega) h5 (ex_pop f_typeCount f_methodCount f_linked f_faultPlace f_flowHeight f_active f_ticksLeft f_outcome f_latestResult a_typeAbove a_fieldSet a_methodType a_methodName a_codeLength a_bytes a_isStart a_heightAt a_kindsAt a_isWaiting a_flowKinds a_globals a_objectType a_fieldValue a_isMarked a_frameMethod a_frameAt (upd a_frameHeight f (nI (h - 1))) a_slots hf pk_us (by omega) (by omega) ?_)
  dsimp only
  rw [er]
  cases r with
  | zero => exact ex_fit0 f_typeCount f_methodCount f_linked f_faultPlace f_flowHeight f_active f_ticksLeft f_outcome f_latestResult a_typeAbove a_fieldSet a_methodType a_methodName a_codeLength a_bytes a_isStart a_heightAt a_kindsAt a_isWaiting a_flowKinds a_globals a_objectType a_fieldValue a_isMarked a_frameMethod a_frameAt (upd (upd a_frameHeight f (nI (h - 1))) f (nI (h - 1 - 1))) a_slots (br_t rfl (J0 rfl))
  | succ o =>
    obtain ⟨t, t1, t2, t3, t4⟩ := J1 o rfl
    refine ex_fit f_typeCount f_methodCount f_linked f_faultPlace f_flowHeight f_active f_ticksLeft f_outcome f_latestResult a_typeAbove a_fieldSet a_methodType a_methodName a_codeLength a_bytes a_isStart a_heightAt a_kindsAt a_isWaiting a_flowKinds a_globals a_objectType a_fieldValue a_isMarked a_frameMethod a_frameAt (upd (upd a_frameHeight f (nI (h - 1))) f (nI (h - 1 - 1))) a_slots (by omega) t1 hb t2 (fun z => br_t rfl (t3 z)) (fun z => br_f (by decide) ?_)
    have e : (nI (o + 1) * 16) + nI b = nI ((o + 1) * 16 + b) := by simp (disch := omega) only [gm_ml, nI_add]
    rw [e, nI_clamp (by omega)]
    exact ⟨vp_in_nI (by omega) (by omega), nm_e (t4 z)⟩
end
section
theorem op_17 (f_flowHeight f_latestResult : Int32) (a_typeAbove a_fieldSet a_methodType a_methodName a_codeLength a_bytes a_isStart a_heightAt a_kindsAt a_isWaiting a_flowKinds a_globals a_objectType a_fieldValue a_isMarked a_frameMethod a_frameAt a_frameHeight a_slots : Nat → Int32) (g_result g_bad g_high g_refs g_code : Int32) (b_ownField b_starts : Nat → Int32) (b_seen b_done : Nat → Int64) (b_heights b_local b_sure b_objType b_objField b_marked b_global b_fMethod b_fPc b_fHigh b_fLocal b_fEntry : Nat → Int32) {tc mc h f t m p hc o b nm : Nat} {mF pF hF : Nat → Nat} (C : CT tc mc h f t m p hc o b nm a_typeAbove a_fieldSet b_ownField a_methodName a_codeLength a_bytes a_heightAt a_kindsAt b_sure a_globals a_objectType a_fieldValue b_global b_objType b_objField a_frameMethod a_frameAt a_frameHeight a_slots b_fMethod b_fPc b_fHigh b_fLocal b_fEntry mF pF hF) (eo : o = 17) : SO (64 * t + sp pF (f + 1)) (nI tc, nI mc, 1, -1, f_flowHeight, nI (f + 1), nI t, -1, f_latestResult, a_typeAbove, a_fieldSet, a_methodType, a_methodName, a_codeLength, a_bytes, a_isStart, a_heightAt, a_kindsAt, a_isWaiting, a_flowKinds, a_globals, a_objectType, a_fieldValue, a_isMarked, a_frameMethod, a_frameAt, a_frameHeight, a_slots) (nI tc, nI mc, -1, g_result, 1, g_bad, g_high, g_refs, nI (f + 1), nI t, g_code, a_typeAbove, b_ownField, a_methodType, a_methodName, a_codeLength, a_bytes, b_starts, b_seen, b_done, b_heights, b_local, b_sure, b_objType, b_objField, b_marked, b_global, b_fMethod, b_fPc, b_fHigh, b_fLocal, b_fEntry) := by
  obtain ⟨q1, q2, q3, q4, q5, q6, q7, q8, q9, q10, q11, q12, q13, q14, q15, q16, q17, q18, q19, q20, q21, q22, q23, q24⟩ := ct_F C
  have f6 := C.2.2.2.2.1
  have HH := C.2.2.2.1
  subst eo
  have x1 : 1 ≤ hc := q21.1
  have hbt : b < tc := (q12 rfl).2.2.2.2 (by decide)
  obtain ⟨rv, hrv, ev1, ev2⟩ := v_ref (top_v q23 x1) (q22 _ (by omega)) (q21.2.1 (by decide))
  obtain ⟨z, kX, kY⟩ := is_both (nI tc) (nI mc) 1 (-1) f_flowHeight (nI (f + 1)) (nI t) (-1) f_latestResult a_typeAbove a_fieldSet a_methodType a_methodName a_codeLength a_bytes a_isStart a_heightAt a_kindsAt a_isWaiting a_flowKinds a_globals a_objectType a_fieldValue a_isMarked a_frameMethod a_frameAt (upd a_frameHeight f (nI (hc - 1))) a_slots (nI tc) (nI mc) (-1) g_result 1 g_bad g_high g_refs (nI (f + 1)) (nI t) g_code b_ownField a_methodType a_methodName a_codeLength a_bytes b_starts b_seen b_done b_heights b_local b_sure b_objType b_objField b_marked b_global b_fMethod b_fPc b_fHigh b_fLocal b_fEntry (b := b) C.1 HH (by omega) hrv
  refine so_top f_flowHeight f_latestResult a_typeAbove a_fieldSet a_methodType a_methodName a_codeLength a_bytes a_isStart a_heightAt a_kindsAt a_isWaiting a_flowKinds a_globals a_objectType a_fieldValue a_isMarked a_frameMethod a_frameAt a_frameHeight a_slots g_result g_bad g_high g_refs g_code b_ownField b_starts b_seen b_done b_heights b_local b_sure b_objType b_objField b_marked b_global b_fMethod b_fPc b_fHigh b_fLocal b_fEntry (t' := t) (p' := p + 2) (h' := h) (gl' := a_globals) (ot' := a_objectType) (fv' := a_fieldValue) (xm' := a_isMarked) (fa' := upd a_frameAt f (nI (p + 2))) (fh' := upd (upd a_frameHeight f (nI (hc - 1))) f (nI (hc - 1 + 1))) (sl' := upd a_slots (f * 9 + 4 + (hc - 1)) (b01 z)) (yg' := b_global) (yt' := b_objType) (yf' := b_objField) (ym' := b_marked) (yp' := upd b_fPc f (nI (p + 2))) (yh' := upd (upd b_fHigh f (nI (hc - 1))) f (nI (hc - 1 + 1))) (yl' := b_fLocal) (ye' := upd b_fEntry (f * 6 + (hc - 1)) (b01 z)) C (Or.inr ⟨by decide, by decide, rfl⟩) (Nat.le_refl _) HH (Or.inl ⟨rfl, by omega⟩) (fun i hi => pk_un (by omega)) (fun i hi => pk_un (by omega)) (fun i hi => by rw [pk_un (by omega), pk_un (by omega)]) (fun i hi => by rw [pk_un (by omega), pk_un (by omega)]) (fun i s hi hs => pk_un (by omega)) (fun i s hi hs => ysl_e (by omega) hs (fun w => by omega)) pk_us pk_us pk_us pk_us ?hs ?gX ?gY
  case hs => exact vr_push (f := f) (g := 2) q21 rfl (by decide) q5 (Nat.le_refl h) q23 rfl v_i
  case gX =>
    intro post J
    refine x_pre f_flowHeight f_latestResult a_typeAbove a_fieldSet a_methodType a_methodName a_codeLength a_bytes a_isStart a_heightAt a_kindsAt a_isWaiting a_flowKinds a_globals a_objectType a_fieldValue a_isMarked a_frameMethod a_frameAt a_frameHeight a_slots g_result g_bad g_high g_refs g_code b_ownField b_starts b_seen b_done b_heights b_local b_sure b_objType b_objField b_marked b_global b_fMethod b_fPc b_fHigh b_fLocal b_fEntry C ?_
    show wX_step_55 post (nI f) (nI 17) (nI 2) (nI b) (nI tc) (nI mc) 1 (-1) f_flowHeight (nI (f + 1)) (nI t) (-1) f_latestResult a_typeAbove a_fieldSet a_methodType a_methodName a_codeLength a_bytes a_isStart a_heightAt a_kindsAt a_isWaiting a_flowKinds a_globals a_objectType a_fieldValue a_isMarked a_frameMethod a_frameAt a_frameHeight a_slots
    exact br_f (by decide) (br_f (by decide) (br_f (by decide) (br_f (by decide) (br_f (by decide) (br_f (by decide) (br_f (by decide) (br_f (by decide) (br_f (by decide) (br_t (by decide) (ex_test (nI tc) (nI mc) 1 (-1) f_flowHeight (nI (f + 1)) (nI t) (-1) f_latestResult a_typeAbove a_fieldSet a_methodType a_methodName a_codeLength a_bytes a_isStart a_heightAt a_kindsAt a_isWaiting a_flowKinds a_globals a_objectType a_fieldValue a_isMarked a_frameMethod a_frameAt a_frameHeight a_slots (z := z) (by omega) q18 x1 q5 (fun post J => by rw [ev1]; exact kX post J) (x206 (nI tc) (nI mc) 1 (-1) f_flowHeight (nI (f + 1)) (nI t) (-1) f_latestResult a_typeAbove a_fieldSet a_methodType a_methodName a_codeLength a_bytes a_isStart a_heightAt a_kindsAt a_isWaiting a_flowKinds a_globals a_objectType a_fieldValue a_isMarked a_frameMethod a_frameAt _ _ (by omega) q16 J)))))))))))
  case gY =>
    intro post J
    refine y_pre f_flowHeight f_latestResult a_typeAbove a_fieldSet a_methodType a_methodName a_codeLength a_bytes a_isStart a_heightAt a_kindsAt a_isWaiting a_flowKinds a_globals a_objectType a_fieldValue a_isMarked a_frameMethod a_frameAt a_frameHeight a_slots g_result g_bad g_high g_refs g_code b_ownField b_starts b_seen b_done b_heights b_local b_sure b_objType b_objField b_marked b_global b_fMethod b_fPc b_fHigh b_fLocal b_fEntry C (fun b1 hb1 hb2 => ?_)
    rw [hb1 rfl, if_pos x1, ev2]
    have go : ∀ ans : Int32, ans = b01 z → wY_execute_568 post (nI f) (nI 17) (nI b) (yR rv) (nI (p + 2)) ans (nI tc) (nI mc) (-1) g_result 1 g_bad g_high g_refs (nI (f + 1)) (nI t) g_code a_typeAbove b_ownField a_methodType a_methodName a_codeLength a_bytes b_starts b_seen b_done b_heights b_local b_sure b_objType b_objField b_marked b_global b_fMethod b_fPc b_fHigh b_fLocal b_fEntry := by
      intro ans ea
      subst ea
      exact br_f (by decide) (br_f (by decide) (br_f (by decide) (br_f (by decide) (br_f (by decide) (br_f (by decide) (br_f (by decide) (br_f (by decide) (br_f (by decide) (br_f (by decide) (br_t (by decide) (e688p (nI tc) (nI mc) (-1) g_result 1 g_bad g_high g_refs (nI (f + 1)) (nI t) g_code a_typeAbove b_ownField a_methodType a_methodName a_codeLength a_bytes b_starts b_seen b_done b_heights b_local b_sure b_objType b_objField b_marked b_global b_fMethod b_fPc b_fHigh b_fLocal b_fEntry (tk := 1) (by omega) q6 (by decide) q19 (by omega) q5 J)))))))))))
    refine br_f (by decide) (br_f (by decide) (br_f (by decide) (br_f (by decide) (br_f (by decide) (br_f (by decide) (br_f (by decide) (br_f (by decide) (br_f (by decide) (br_f (by decide) (br_f (by decide) (br_f (by decide) (br_f (by decide) (br_f (by decide) (br_f (by decide) (br_f (by decide) (br_f (by decide) (br_f (by decide) (br_f (by decide) (br_f (by decide) (br_f (by decide) (br_f (by decide) (br_t (by decide) (kY _ ?_)))))))))))))))))))))))
    cases z
    · exact br_t rfl (go 0 rfl)
    · exact br_f (by decide) (go 1 rfl)
theorem op_13 (f_flowHeight f_latestResult : Int32) (a_typeAbove a_fieldSet a_methodType a_methodName a_codeLength a_bytes a_isStart a_heightAt a_kindsAt a_isWaiting a_flowKinds a_globals a_objectType a_fieldValue a_isMarked a_frameMethod a_frameAt a_frameHeight a_slots : Nat → Int32) (g_result g_bad g_high g_refs g_code : Int32) (b_ownField b_starts : Nat → Int32) (b_seen b_done : Nat → Int64) (b_heights b_local b_sure b_objType b_objField b_marked b_global b_fMethod b_fPc b_fHigh b_fLocal b_fEntry : Nat → Int32) {tc mc h f t m p hc o b nm : Nat} {mF pF hF : Nat → Nat} (C : CT tc mc h f t m p hc o b nm a_typeAbove a_fieldSet b_ownField a_methodName a_codeLength a_bytes a_heightAt a_kindsAt b_sure a_globals a_objectType a_fieldValue b_global b_objType b_objField a_frameMethod a_frameAt a_frameHeight a_slots b_fMethod b_fPc b_fHigh b_fLocal b_fEntry mF pF hF) (eo : o = 13) : SO (64 * t + sp pF (f + 1)) (nI tc, nI mc, 1, -1, f_flowHeight, nI (f + 1), nI t, -1, f_latestResult, a_typeAbove, a_fieldSet, a_methodType, a_methodName, a_codeLength, a_bytes, a_isStart, a_heightAt, a_kindsAt, a_isWaiting, a_flowKinds, a_globals, a_objectType, a_fieldValue, a_isMarked, a_frameMethod, a_frameAt, a_frameHeight, a_slots) (nI tc, nI mc, -1, g_result, 1, g_bad, g_high, g_refs, nI (f + 1), nI t, g_code, a_typeAbove, b_ownField, a_methodType, a_methodName, a_codeLength, a_bytes, b_starts, b_seen, b_done, b_heights, b_local, b_sure, b_objType, b_objField, b_marked, b_global, b_fMethod, b_fPc, b_fHigh, b_fLocal, b_fEntry) := by
  obtain ⟨q1, q2, q3, q4, q5, q6, q7, q8, q9, q10, q11, q12, q13, q14, q15, q16, q17, q18, q19, q20, q21, q22, q23, q24⟩ := ct_F C
  have f6 := C.2.2.2.2.1
  have HH := C.2.2.2.1
  subst eo
  have hbt : b < tc := (q12 rfl).2.2.2.2 (by decide)
  have x5 : hc < 5 := q21.2.2.2.2 rfl
  obtain ⟨rv, RT, hrv⟩ := rt_FR C.1 C.2.2.1 HH C.2.2.2.2.2.2.1
  rcases al_both (nI tc) (nI mc) 1 (-1) f_flowHeight (nI t) (-1) f_latestResult a_typeAbove a_fieldSet a_methodType a_methodName a_codeLength a_bytes a_isStart a_heightAt a_kindsAt a_isWaiting a_flowKinds a_globals a_objectType a_fieldValue a_isMarked a_frameMethod a_frameAt a_frameHeight a_slots (nI tc) (nI mc) (-1) g_result 1 g_bad g_high g_refs (nI (f + 1)) (nI t) g_code a_typeAbove b_ownField a_methodType a_methodName a_codeLength a_bytes b_starts b_seen b_done b_heights b_local b_sure b_objType b_objField b_marked b_global b_fMethod b_fPc b_fHigh b_fLocal b_fEntry (n := f + 1) C.1 HH (by omega) RT hrv hbt with ⟨xm, ym, kX, kY⟩ | ⟨xm, ym, l, h', ot, fv, yt, yf, l10, hh', lh', H', eot, kX, kY⟩
  · refine so_end f_flowHeight f_latestResult a_typeAbove a_fieldSet a_methodType a_methodName a_codeLength a_bytes a_isStart a_heightAt a_kindsAt a_isWaiting a_flowKinds a_globals a_objectType a_fieldValue a_isMarked a_frameMethod a_frameAt a_frameHeight a_slots g_result g_bad g_high g_refs g_code b_ownField b_starts b_seen b_done b_heights b_local b_sure b_objType b_objField b_marked b_global b_fMethod b_fPc b_fHigh b_fLocal b_fEntry (h' := h) (r := 1) (u' := (nI tc, nI mc, 1, -1, f_flowHeight, nI (f + 1), nI t, 1, 6, a_typeAbove, a_fieldSet, a_methodType, a_methodName, a_codeLength, a_bytes, a_isStart, a_heightAt, a_kindsAt, a_isWaiting, a_flowKinds, a_globals, a_objectType, a_fieldValue, xm, a_frameMethod, upd a_frameAt f (nI (p + 2)), a_frameHeight, a_slots)) (v' := (nI tc, nI mc, -1, g_result, 1, g_bad, g_high, g_refs, nI (f + 1), nI t, 6, a_typeAbove, b_ownField, a_methodType, a_methodName, a_codeLength, a_bytes, b_starts, b_seen, b_done, b_heights, b_local, b_sure, b_objType, b_objField, ym, b_global, b_fMethod, b_fPc, b_fHigh, b_fLocal, b_fEntry)) C ⟨tc, mc, h, ⟨rfl, rfl, rfl, rfl, rfl, rfl, rfl, rfl, rfl, rfl, rfl, rfl, rfl, C.1, C.2.1, C.2.2.1, HH⟩, rfl, Or.inr (Or.inl ⟨rfl, rfl⟩)⟩ (fun post J => x_pre f_flowHeight f_latestResult a_typeAbove a_fieldSet a_methodType a_methodName a_codeLength a_bytes a_isStart a_heightAt a_kindsAt a_isWaiting a_flowKinds a_globals a_objectType a_fieldValue a_isMarked a_frameMethod a_frameAt a_frameHeight a_slots g_result g_bad g_high g_refs g_code b_ownField b_starts b_seen b_done b_heights b_local b_sure b_objType b_objField b_marked b_global b_fMethod b_fPc b_fHigh b_fLocal b_fEntry C ?_) (fun post J => y_pre f_flowHeight f_latestResult a_typeAbove a_fieldSet a_methodType a_methodName a_codeLength a_bytes a_isStart a_heightAt a_kindsAt a_isWaiting a_flowKinds a_globals a_objectType a_fieldValue a_isMarked a_frameMethod a_frameAt a_frameHeight a_slots g_result g_bad g_high g_refs g_code b_ownField b_starts b_seen b_done b_heights b_local b_sure b_objType b_objField b_marked b_global b_fMethod b_fPc b_fHigh b_fLocal b_fEntry C (fun b1 hb1 hb2 => ?_))
    · show wX_step_55 post (nI f) (nI 13) (nI 2) (nI b) (nI tc) (nI mc) 1 (-1) f_flowHeight (nI (f + 1)) (nI t) (-1) f_latestResult a_typeAbove a_fieldSet a_methodType a_methodName a_codeLength a_bytes a_isStart a_heightAt a_kindsAt a_isWaiting a_flowKinds a_globals a_objectType a_fieldValue a_isMarked a_frameMethod a_frameAt a_frameHeight a_slots
      refine br_f (by decide) (br_f (by decide) (br_f (by decide) (br_f (by decide) (br_f (by decide) (br_t (by decide) (?_))))))
      unfold wpX_makeObject
      exact kX _ (br_t rfl (x206 (nI tc) (nI mc) 1 (-1) f_flowHeight (nI (f + 1)) (nI t) 1 6 a_typeAbove a_fieldSet a_methodType a_methodName a_codeLength a_bytes a_isStart a_heightAt a_kindsAt a_isWaiting a_flowKinds a_globals a_objectType a_fieldValue xm a_frameMethod a_frameAt a_frameHeight a_slots (by omega) q16 J))
    · rw [hb1 rfl]
      exact br_f (by decide) (br_f (by decide) (br_f (by decide) (br_f (by decide) (br_f (by decide) (br_f (by decide) (br_f (by decide) (br_f (by decide) (br_f (by decide) (br_f (by decide) (br_t (by decide) (kY _ (br_f (by decide) J))))))))))))
  · refine so_top f_flowHeight f_latestResult a_typeAbove a_fieldSet a_methodType a_methodName a_codeLength a_bytes a_isStart a_heightAt a_kindsAt a_isWaiting a_flowKinds a_globals a_objectType a_fieldValue a_isMarked a_frameMethod a_frameAt a_frameHeight a_slots g_result g_bad g_high g_refs g_code b_ownField b_starts b_seen b_done b_heights b_local b_sure b_objType b_objField b_marked b_global b_fMethod b_fPc b_fHigh b_fLocal b_fEntry (t' := t) (p' := p + 2) (h' := h') (gl' := a_globals) (ot' := ot) (fv' := fv) (xm' := xm) (fa' := upd a_frameAt f (nI (p + 2))) (fh' := upd a_frameHeight f (nI (hc + 1))) (sl' := upd a_slots (f * 9 + 4 + hc) (nI (l + 1))) (yg' := b_global) (yt' := yt) (yf' := yf) (ym' := ym) (yp' := upd b_fPc f (nI (p + 2))) (yh' := upd (upd b_fHigh f (nI (hc - 0))) f (nI (hc - 0 + 1))) (yl' := b_fLocal) (ye' := upd b_fEntry (f * 6 + (hc - 0)) (nI l)) C (Or.inr ⟨by decide, by decide, rfl⟩) hh' H' (Or.inl ⟨rfl, by omega⟩) (fun i hi => pk_un (by omega)) (fun i hi => pk_un (by omega)) (fun i hi => pk_un (by omega)) (fun i hi => by rw [pk_un (by omega), pk_un (by omega)]) (fun i s hi hs => pk_un (by omega)) (fun i s hi hs => ysl_e (by omega) hs (fun w => by omega)) pk_us pk_us pk_us pk_us ?hs ?gX ?gY
    case hs => exact vr_push (f := f) (g := 4) q21 rfl (by decide) q5 hh' q23 rfl ⟨fun _ => ⟨l + 1, by omega, rfl, (yR_s l).symm⟩, fun z => absurd z (by decide)⟩
    case gX =>
      intro post J
      refine x_pre f_flowHeight f_latestResult a_typeAbove a_fieldSet a_methodType a_methodName a_codeLength a_bytes a_isStart a_heightAt a_kindsAt a_isWaiting a_flowKinds a_globals a_objectType a_fieldValue a_isMarked a_frameMethod a_frameAt a_frameHeight a_slots g_result g_bad g_high g_refs g_code b_ownField b_starts b_seen b_done b_heights b_local b_sure b_objType b_objField b_marked b_global b_fMethod b_fPc b_fHigh b_fLocal b_fEntry C ?_
      show wX_step_55 post (nI f) (nI 13) (nI 2) (nI b) (nI tc) (nI mc) 1 (-1) f_flowHeight (nI (f + 1)) (nI t) (-1) f_latestResult a_typeAbove a_fieldSet a_methodType a_methodName a_codeLength a_bytes a_isStart a_heightAt a_kindsAt a_isWaiting a_flowKinds a_globals a_objectType a_fieldValue a_isMarked a_frameMethod a_frameAt a_frameHeight a_slots
      refine br_f (by decide) (br_f (by decide) (br_f (by decide) (br_f (by decide) (br_f (by decide) (br_t (by decide) (?_))))))
      unfold wpX_makeObject
      exact kX _ (br_f (nI_ne0 (by omega) (by omega)) (ex_push (nI tc) (nI mc) 1 (-1) f_flowHeight (nI (f + 1)) (nI t) (-1) f_latestResult a_typeAbove a_fieldSet a_methodType a_methodName a_codeLength a_bytes a_isStart a_heightAt a_kindsAt a_isWaiting a_flowKinds a_globals ot fv xm a_frameMethod a_frameAt a_frameHeight a_slots (by omega) q18 x5 (x206 (nI tc) (nI mc) 1 (-1) f_flowHeight (nI (f + 1)) (nI t) (-1) f_latestResult a_typeAbove a_fieldSet a_methodType a_methodName a_codeLength a_bytes a_isStart a_heightAt a_kindsAt a_isWaiting a_flowKinds a_globals ot fv xm a_frameMethod a_frameAt _ _ (by omega) q16 J)))
    case gY =>
      intro post J
      refine y_pre f_flowHeight f_latestResult a_typeAbove a_fieldSet a_methodType a_methodName a_codeLength a_bytes a_isStart a_heightAt a_kindsAt a_isWaiting a_flowKinds a_globals a_objectType a_fieldValue a_isMarked a_frameMethod a_frameAt a_frameHeight a_slots g_result g_bad g_high g_refs g_code b_ownField b_starts b_seen b_done b_heights b_local b_sure b_objType b_objField b_marked b_global b_fMethod b_fPc b_fHigh b_fLocal b_fEntry C (fun b1 hb1 hb2 => ?_)
      rw [hb1 rfl]
      exact br_f (by decide) (br_f (by decide) (br_f (by decide) (br_f (by decide) (br_f (by decide) (br_f (by decide) (br_f (by decide) (br_f (by decide) (br_f (by decide) (br_f (by decide) (br_t (by decide) (kY _ (br_t (nI_pos' (by omega)) (br_f (by decide) (br_f (by decide) (br_f (by decide) (br_f (by decide) (br_f (by decide) (br_f (by decide) (br_f (by decide) (br_f (by decide) (br_f (by decide) (br_f (by decide) (br_f (by decide) (br_f (by decide) (br_f (by decide) (br_f (by decide) (br_f (by decide) (br_f (by decide) (br_f (by decide) (br_f (by decide) (br_f (by decide) (br_f (by decide) (br_f (by decide) (br_f (by decide) (br_f (by decide) (br_f (by decide) (e688p (nI tc) (nI mc) (-1) g_result 1 g_bad g_high g_refs (nI (f + 1)) (nI t) g_code a_typeAbove b_ownField a_methodType a_methodName a_codeLength a_bytes b_starts b_seen b_done b_heights b_local b_sure yt yf ym b_global b_fMethod b_fPc b_fHigh b_fLocal b_fEntry (tk := 0) (by omega) q6 (by decide) q19 (by omega) q5 J)))))))))))))))))))))))))))))))))))))
theorem op_14 (f_flowHeight f_latestResult : Int32) (a_typeAbove a_fieldSet a_methodType a_methodName a_codeLength a_bytes a_isStart a_heightAt a_kindsAt a_isWaiting a_flowKinds a_globals a_objectType a_fieldValue a_isMarked a_frameMethod a_frameAt a_frameHeight a_slots : Nat → Int32) (g_result g_bad g_high g_refs g_code : Int32) (b_ownField b_starts : Nat → Int32) (b_seen b_done : Nat → Int64) (b_heights b_local b_sure b_objType b_objField b_marked b_global b_fMethod b_fPc b_fHigh b_fLocal b_fEntry : Nat → Int32) {tc mc h f t m p hc o b nm : Nat} {mF pF hF : Nat → Nat} (C : CT tc mc h f t m p hc o b nm a_typeAbove a_fieldSet b_ownField a_methodName a_codeLength a_bytes a_heightAt a_kindsAt b_sure a_globals a_objectType a_fieldValue b_global b_objType b_objField a_frameMethod a_frameAt a_frameHeight a_slots b_fMethod b_fPc b_fHigh b_fLocal b_fEntry mF pF hF) (eo : o = 14) : SO (64 * t + sp pF (f + 1)) (nI tc, nI mc, 1, -1, f_flowHeight, nI (f + 1), nI t, -1, f_latestResult, a_typeAbove, a_fieldSet, a_methodType, a_methodName, a_codeLength, a_bytes, a_isStart, a_heightAt, a_kindsAt, a_isWaiting, a_flowKinds, a_globals, a_objectType, a_fieldValue, a_isMarked, a_frameMethod, a_frameAt, a_frameHeight, a_slots) (nI tc, nI mc, -1, g_result, 1, g_bad, g_high, g_refs, nI (f + 1), nI t, g_code, a_typeAbove, b_ownField, a_methodType, a_methodName, a_codeLength, a_bytes, b_starts, b_seen, b_done, b_heights, b_local, b_sure, b_objType, b_objField, b_marked, b_global, b_fMethod, b_fPc, b_fHigh, b_fLocal, b_fEntry) := by
  obtain ⟨q1, q2, q3, q4, q5, q6, q7, q8, q9, q10, q11, q12, q13, q14, q15, q16, q17, q18, q19, q20, q21, q22, q23, q24⟩ := ct_F C
  have f6 := C.2.2.2.2.1
  have HH := C.2.2.2.1
  subst eo
  have x1 : 1 ≤ hc := q21.1
  have hb16 : b < 16 := (q12 rfl).2.2.1 (by decide)
  have h10 := HH.1
  obtain ⟨rv, hrv, ev1, ev2⟩ := v_ref (top_v q23 x1) (q22 _ (by omega)) (q21.2.1 (by decide))
  cases rv with
  | zero =>
    refine so_end f_flowHeight f_latestResult a_typeAbove a_fieldSet a_methodType a_methodName a_codeLength a_bytes a_isStart a_heightAt a_kindsAt a_isWaiting a_flowKinds a_globals a_objectType a_fieldValue a_isMarked a_frameMethod a_frameAt a_frameHeight a_slots g_result g_bad g_high g_refs g_code b_ownField b_starts b_seen b_done b_heights b_local b_sure b_objType b_objField b_marked b_global b_fMethod b_fPc b_fHigh b_fLocal b_fEntry (h' := h) (r := 1) (u' := (nI tc, nI mc, 1, -1, f_flowHeight, nI (f + 1), nI t, 1, 1, a_typeAbove, a_fieldSet, a_methodType, a_methodName, a_codeLength, a_bytes, a_isStart, a_heightAt, a_kindsAt, a_isWaiting, a_flowKinds, a_globals, a_objectType, a_fieldValue, a_isMarked, a_frameMethod, upd a_frameAt f (nI (p + 2)), upd a_frameHeight f (nI (hc - 1)), a_slots)) (v' := (nI tc, nI mc, -1, g_result, 1, g_bad, g_high, g_refs, nI (f + 1), nI t, 1, a_typeAbove, b_ownField, a_methodType, a_methodName, a_codeLength, a_bytes, b_starts, b_seen, b_done, b_heights, b_local, b_sure, b_objType, b_objField, b_marked, b_global, b_fMethod, b_fPc, b_fHigh, b_fLocal, b_fEntry)) C ⟨tc, mc, h, ⟨rfl, rfl, rfl, rfl, rfl, rfl, rfl, rfl, rfl, rfl, rfl, rfl, rfl, C.1, C.2.1, C.2.2.1, HH⟩, rfl, Or.inr (Or.inl ⟨rfl, rfl⟩)⟩ (fun post J => x_pre f_flowHeight f_latestResult a_typeAbove a_fieldSet a_methodType a_methodName a_codeLength a_bytes a_isStart a_heightAt a_kindsAt a_isWaiting a_flowKinds a_globals a_objectType a_fieldValue a_isMarked a_frameMethod a_frameAt a_frameHeight a_slots g_result g_bad g_high g_refs g_code b_ownField b_starts b_seen b_done b_heights b_local b_sure b_objType b_objField b_marked b_global b_fMethod b_fPc b_fHigh b_fLocal b_fEntry C ?_) (fun post J => y_pre f_flowHeight f_latestResult a_typeAbove a_fieldSet a_methodType a_methodName a_codeLength a_bytes a_isStart a_heightAt a_kindsAt a_isWaiting a_flowKinds a_globals a_objectType a_fieldValue a_isMarked a_frameMethod a_frameAt a_frameHeight a_slots g_result g_bad g_high g_refs g_code b_ownField b_starts b_seen b_done b_heights b_local b_sure b_objType b_objField b_marked b_global b_fMethod b_fPc b_fHigh b_fLocal b_fEntry C (fun b1 hb1 hb2 => ?_))
    · show wX_step_55 post (nI f) (nI 14) (nI 2) (nI b) (nI tc) (nI mc) 1 (-1) f_flowHeight (nI (f + 1)) (nI t) (-1) f_latestResult a_typeAbove a_fieldSet a_methodType a_methodName a_codeLength a_bytes a_isStart a_heightAt a_kindsAt a_isWaiting a_flowKinds a_globals a_objectType a_fieldValue a_isMarked a_frameMethod a_frameAt a_frameHeight a_slots
      exact br_f (by decide) (br_f (by decide) (br_f (by decide) (br_f (by decide) (br_f (by decide) (br_f (by decide) (br_t (by decide) (ex_get (nI tc) (nI mc) 1 (-1) f_flowHeight (nI (f + 1)) (nI t) (-1) f_latestResult a_typeAbove a_fieldSet a_methodType a_methodName a_codeLength a_bytes a_isStart a_heightAt a_kindsAt a_isWaiting a_flowKinds a_globals a_objectType a_fieldValue a_isMarked a_frameMethod a_frameAt a_frameHeight a_slots (r := 0) (by omega) q18 x1 q5 (by omega) hb16 ev1 (fun _ => x206 (nI tc) (nI mc) 1 (-1) f_flowHeight (nI (f + 1)) (nI t) 1 1 a_typeAbove a_fieldSet a_methodType a_methodName a_codeLength a_bytes a_isStart a_heightAt a_kindsAt a_isWaiting a_flowKinds a_globals a_objectType a_fieldValue a_isMarked a_frameMethod a_frameAt (upd a_frameHeight f (nI (hc - 1))) a_slots (by omega) q16 J) (fun o e => absurd e (by omega)))))))))
    · rw [hb1 rfl, if_pos x1, ev2, yR_0]
      exact br_f (by decide) (br_f (by decide) (br_f (by decide) (br_f (by decide) (br_t (by decide) (br_t (by decide) (br_f (by decide) J))))))
  | succ ob =>
    rw [yR_s] at ev2
    obtain ⟨ty, hty, t1, t2, -, -⟩ := HH.2.2 ob (by omega)
    cases hb : bt (a_fieldSet ty) b
    · refine so_end f_flowHeight f_latestResult a_typeAbove a_fieldSet a_methodType a_methodName a_codeLength a_bytes a_isStart a_heightAt a_kindsAt a_isWaiting a_flowKinds a_globals a_objectType a_fieldValue a_isMarked a_frameMethod a_frameAt a_frameHeight a_slots g_result g_bad g_high g_refs g_code b_ownField b_starts b_seen b_done b_heights b_local b_sure b_objType b_objField b_marked b_global b_fMethod b_fPc b_fHigh b_fLocal b_fEntry (h' := h) (r := 1) (u' := (nI tc, nI mc, 1, -1, f_flowHeight, nI (f + 1), nI t, 1, 3, a_typeAbove, a_fieldSet, a_methodType, a_methodName, a_codeLength, a_bytes, a_isStart, a_heightAt, a_kindsAt, a_isWaiting, a_flowKinds, a_globals, a_objectType, a_fieldValue, a_isMarked, a_frameMethod, upd a_frameAt f (nI (p + 2)), upd a_frameHeight f (nI (hc - 1)), a_slots)) (v' := (nI tc, nI mc, -1, g_result, 1, g_bad, g_high, g_refs, nI (f + 1), nI t, 3, a_typeAbove, b_ownField, a_methodType, a_methodName, a_codeLength, a_bytes, b_starts, b_seen, b_done, b_heights, b_local, b_sure, b_objType, b_objField, b_marked, b_global, b_fMethod, b_fPc, b_fHigh, b_fLocal, b_fEntry)) C ⟨tc, mc, h, ⟨rfl, rfl, rfl, rfl, rfl, rfl, rfl, rfl, rfl, rfl, rfl, rfl, rfl, C.1, C.2.1, C.2.2.1, HH⟩, rfl, Or.inr (Or.inl ⟨rfl, rfl⟩)⟩ (fun post J => x_pre f_flowHeight f_latestResult a_typeAbove a_fieldSet a_methodType a_methodName a_codeLength a_bytes a_isStart a_heightAt a_kindsAt a_isWaiting a_flowKinds a_globals a_objectType a_fieldValue a_isMarked a_frameMethod a_frameAt a_frameHeight a_slots g_result g_bad g_high g_refs g_code b_ownField b_starts b_seen b_done b_heights b_local b_sure b_objType b_objField b_marked b_global b_fMethod b_fPc b_fHigh b_fLocal b_fEntry C ?_) (fun post J => y_pre f_flowHeight f_latestResult a_typeAbove a_fieldSet a_methodType a_methodName a_codeLength a_bytes a_isStart a_heightAt a_kindsAt a_isWaiting a_flowKinds a_globals a_objectType a_fieldValue a_isMarked a_frameMethod a_frameAt a_frameHeight a_slots g_result g_bad g_high g_refs g_code b_ownField b_starts b_seen b_done b_heights b_local b_sure b_objType b_objField b_marked b_global b_fMethod b_fPc b_fHigh b_fLocal b_fEntry C (fun b1 hb1 hb2 => ?_))
      · show wX_step_55 post (nI f) (nI 14) (nI 2) (nI b) (nI tc) (nI mc) 1 (-1) f_flowHeight (nI (f + 1)) (nI t) (-1) f_latestResult a_typeAbove a_fieldSet a_methodType a_methodName a_codeLength a_bytes a_isStart a_heightAt a_kindsAt a_isWaiting a_flowKinds a_globals a_objectType a_fieldValue a_isMarked a_frameMethod a_frameAt a_frameHeight a_slots
        exact br_f (by decide) (br_f (by decide) (br_f (by decide) (br_f (by decide) (br_f (by decide) (br_f (by decide) (br_t (by decide) (ex_get (nI tc) (nI mc) 1 (-1) f_flowHeight (nI (f + 1)) (nI t) (-1) f_latestResult a_typeAbove a_fieldSet a_methodType a_methodName a_codeLength a_bytes a_isStart a_heightAt a_kindsAt a_isWaiting a_flowKinds a_globals a_objectType a_fieldValue a_isMarked a_frameMethod a_frameAt a_frameHeight a_slots (r := ob + 1) (by omega) q18 x1 q5 (by omega) hb16 ev1 (fun e => absurd e (by omega)) (fun o e => by cases e; exact ⟨ty, by omega, t1, fun _ => x206 (nI tc) (nI mc) 1 (-1) f_flowHeight (nI (f + 1)) (nI t) 1 3 a_typeAbove a_fieldSet a_methodType a_methodName a_codeLength a_bytes a_isStart a_heightAt a_kindsAt a_isWaiting a_flowKinds a_globals a_objectType a_fieldValue a_isMarked a_frameMethod a_frameAt (upd a_frameHeight f (nI (hc - 1))) a_slots (by omega) q16 J, fun z => by rw [hb] at z; exact nomatch z⟩))))))))
      · rw [hb1 rfl, if_pos x1, ev2]
        refine br_f (by decide) (br_f (by decide) (br_f (by decide) (br_f (by decide) (br_t (by decide) (br_t (by decide) (br_t (nI_pos' (by omega)) (br_t (by decide) ⟨vp_in_nI (by omega) (by omega), ?_⟩)))))))
        rw [nI_clamp (by omega), t2]
        refine ev_yhas (nI tc) (nI mc) (-1) g_result 1 g_bad g_high g_refs (nI (f + 1)) (nI t) g_code a_typeAbove b_ownField a_methodType a_methodName a_codeLength a_bytes b_starts b_seen b_done b_heights b_local b_sure b_objType b_objField b_marked b_global b_fMethod b_fPc b_fHigh b_fLocal b_fEntry C.1 hb16 hty ?_
        rw [hb]
        exact br_t rfl J
    · refine so_top f_flowHeight f_latestResult a_typeAbove a_fieldSet a_methodType a_methodName a_codeLength a_bytes a_isStart a_heightAt a_kindsAt a_isWaiting a_flowKinds a_globals a_objectType a_fieldValue a_isMarked a_frameMethod a_frameAt a_frameHeight a_slots g_result g_bad g_high g_refs g_code b_ownField b_starts b_seen b_done b_heights b_local b_sure b_objType b_objField b_marked b_global b_fMethod b_fPc b_fHigh b_fLocal b_fEntry (t' := t) (p' := p + 2) (h' := h) (gl' := a_globals) (ot' := a_objectType) (fv' := a_fieldValue) (xm' := a_isMarked) (fa' := upd a_frameAt f (nI (p + 2))) (fh' := upd (upd a_frameHeight f (nI (hc - 1))) f (nI (hc - 1 + 1))) (sl' := upd a_slots (f * 9 + 4 + (hc - 1)) (a_fieldValue ((ob + 1) * 16 + b))) (yg' := b_global) (yt' := b_objType) (yf' := b_objField) (ym' := b_marked) (yp' := upd b_fPc f (nI (p + 2))) (yh' := upd (upd b_fHigh f (nI (hc - 1))) f (nI (hc - 1 + 1))) (yl' := b_fLocal) (ye' := upd b_fEntry (f * 6 + (hc - 1)) (b_objField (ob * 16 + b))) C (Or.inr ⟨by decide, by decide, rfl⟩) (Nat.le_refl _) HH (Or.inl ⟨rfl, by omega⟩) (fun i hi => pk_un (by omega)) (fun i hi => pk_un (by omega)) (fun i hi => by rw [pk_un (by omega), pk_un (by omega)]) (fun i hi => by rw [pk_un (by omega), pk_un (by omega)]) (fun i s hi hs => pk_un (by omega)) (fun i s hi hs => ysl_e (by omega) hs (fun w => by omega)) pk_us pk_us pk_us pk_us ?hs ?gX ?gY
      case hs => exact vr_push (f := f) (g := is_vk b) q21 rfl (by decide) q5 (Nat.le_refl h) q23 rfl (fd_v (t := ty) HH (by omega) hb16)
      case gX =>
        intro post J
        refine x_pre f_flowHeight f_latestResult a_typeAbove a_fieldSet a_methodType a_methodName a_codeLength a_bytes a_isStart a_heightAt a_kindsAt a_isWaiting a_flowKinds a_globals a_objectType a_fieldValue a_isMarked a_frameMethod a_frameAt a_frameHeight a_slots g_result g_bad g_high g_refs g_code b_ownField b_starts b_seen b_done b_heights b_local b_sure b_objType b_objField b_marked b_global b_fMethod b_fPc b_fHigh b_fLocal b_fEntry C ?_
        show wX_step_55 post (nI f) (nI 14) (nI 2) (nI b) (nI tc) (nI mc) 1 (-1) f_flowHeight (nI (f + 1)) (nI t) (-1) f_latestResult a_typeAbove a_fieldSet a_methodType a_methodName a_codeLength a_bytes a_isStart a_heightAt a_kindsAt a_isWaiting a_flowKinds a_globals a_objectType a_fieldValue a_isMarked a_frameMethod a_frameAt a_frameHeight a_slots
        exact br_f (by decide) (br_f (by decide) (br_f (by decide) (br_f (by decide) (br_f (by decide) (br_f (by decide) (br_t (by decide) (ex_get (nI tc) (nI mc) 1 (-1) f_flowHeight (nI (f + 1)) (nI t) (-1) f_latestResult a_typeAbove a_fieldSet a_methodType a_methodName a_codeLength a_bytes a_isStart a_heightAt a_kindsAt a_isWaiting a_flowKinds a_globals a_objectType a_fieldValue a_isMarked a_frameMethod a_frameAt a_frameHeight a_slots (r := ob + 1) (by omega) q18 x1 q5 (by omega) hb16 ev1 (fun e => absurd e (by omega)) (fun o e => by cases e; exact ⟨ty, by omega, t1, fun z => by (rw [hb] at z; exact nomatch z), fun _ => x206 (nI tc) (nI mc) 1 (-1) f_flowHeight (nI (f + 1)) (nI t) (-1) f_latestResult a_typeAbove a_fieldSet a_methodType a_methodName a_codeLength a_bytes a_isStart a_heightAt a_kindsAt a_isWaiting a_flowKinds a_globals a_objectType a_fieldValue a_isMarked a_frameMethod a_frameAt _ _ (by omega) q16 J⟩))))))))
      case gY =>
        intro post J
        refine y_pre f_flowHeight f_latestResult a_typeAbove a_fieldSet a_methodType a_methodName a_codeLength a_bytes a_isStart a_heightAt a_kindsAt a_isWaiting a_flowKinds a_globals a_objectType a_fieldValue a_isMarked a_frameMethod a_frameAt a_frameHeight a_slots g_result g_bad g_high g_refs g_code b_ownField b_starts b_seen b_done b_heights b_local b_sure b_objType b_objField b_marked b_global b_fMethod b_fPc b_fHigh b_fLocal b_fEntry C (fun b1 hb1 hb2 => ?_)
        rw [hb1 rfl, if_pos x1, ev2]
        refine br_f (by decide) (br_f (by decide) (br_f (by decide) (br_f (by decide) (br_t (by decide) (br_t (by decide) (br_t (nI_pos' (by omega)) (br_t (by decide) ⟨vp_in_nI (by omega) (by omega), ?_⟩)))))))
        rw [nI_clamp (by omega), t2]
        refine ev_yhas (nI tc) (nI mc) (-1) g_result 1 g_bad g_high g_refs (nI (f + 1)) (nI t) g_code a_typeAbove b_ownField a_methodType a_methodName a_codeLength a_bytes b_starts b_seen b_done b_heights b_local b_sure b_objType b_objField b_marked b_global b_fMethod b_fPc b_fHigh b_fLocal b_fEntry C.1 hb16 hty ?_
        rw [hb]
        refine br_f (by decide) (br_f (by decide) (br_f (by decide) (br_f (by decide) (br_f (by decide) (br_f (by decide) (br_f (by decide) (br_f (by decide) (br_f (by decide) (br_f (by decide) (br_f (by decide) (br_f (by decide) (br_t (by decide) (?_)))))))))))))
        rw [show (nI ob * 16) + nI b = nI (ob * 16 + b) by simp (disch := omega) only [gm_ml, nI_add], nI_clamp (by omega)]
        exact ⟨vp_in_nI (by omega) (by omega), nm_e (br_f (by decide) (br_f (by decide) (br_f (by decide) (br_f (by decide) (br_f (by decide) (br_f (by decide) (br_f (by decide) (br_f (by decide) (br_f (by decide) (br_f (by decide) (br_f (by decide) (br_t (by decide) (e688p (nI tc) (nI mc) (-1) g_result 1 g_bad g_high g_refs (nI (f + 1)) (nI t) g_code a_typeAbove b_ownField a_methodType a_methodName a_codeLength a_bytes b_starts b_seen b_done b_heights b_local b_sure b_objType b_objField b_marked b_global b_fMethod b_fPc b_fHigh b_fLocal b_fEntry (tk := 1) (by omega) q6 (by decide) q19 (by omega) q5 J)))))))))))))⟩
theorem op_15 (f_flowHeight f_latestResult : Int32) (a_typeAbove a_fieldSet a_methodType a_methodName a_codeLength a_bytes a_isStart a_heightAt a_kindsAt a_isWaiting a_flowKinds a_globals a_objectType a_fieldValue a_isMarked a_frameMethod a_frameAt a_frameHeight a_slots : Nat → Int32) (g_result g_bad g_high g_refs g_code : Int32) (b_ownField b_starts : Nat → Int32) (b_seen b_done : Nat → Int64) (b_heights b_local b_sure b_objType b_objField b_marked b_global b_fMethod b_fPc b_fHigh b_fLocal b_fEntry : Nat → Int32) {tc mc h f t m p hc o b nm : Nat} {mF pF hF : Nat → Nat} (C : CT tc mc h f t m p hc o b nm a_typeAbove a_fieldSet b_ownField a_methodName a_codeLength a_bytes a_heightAt a_kindsAt b_sure a_globals a_objectType a_fieldValue b_global b_objType b_objField a_frameMethod a_frameAt a_frameHeight a_slots b_fMethod b_fPc b_fHigh b_fLocal b_fEntry mF pF hF) (eo : o = 15) : SO (64 * t + sp pF (f + 1)) (nI tc, nI mc, 1, -1, f_flowHeight, nI (f + 1), nI t, -1, f_latestResult, a_typeAbove, a_fieldSet, a_methodType, a_methodName, a_codeLength, a_bytes, a_isStart, a_heightAt, a_kindsAt, a_isWaiting, a_flowKinds, a_globals, a_objectType, a_fieldValue, a_isMarked, a_frameMethod, a_frameAt, a_frameHeight, a_slots) (nI tc, nI mc, -1, g_result, 1, g_bad, g_high, g_refs, nI (f + 1), nI t, g_code, a_typeAbove, b_ownField, a_methodType, a_methodName, a_codeLength, a_bytes, b_starts, b_seen, b_done, b_heights, b_local, b_sure, b_objType, b_objField, b_marked, b_global, b_fMethod, b_fPc, b_fHigh, b_fLocal, b_fEntry) := by
  obtain ⟨q1, q2, q3, q4, q5, q6, q7, q8, q9, q10, q11, q12, q13, q14, q15, q16, q17, q18, q19, q20, q21, q22, q23, q24⟩ := ct_F C
  have f6 := C.2.2.2.2.1
  have HH := C.2.2.2.1
  subst eo
  have x1 : 2 ≤ hc := q21.1
  have hb16 : b < 16 := (q12 rfl).2.2.1 (by decide)
  have h10 := HH.1
  have hvv := top_v q23 (by omega)
  have hvk : VRm h (is_vk b) (a_slots (f * 9 + 4 + (hc - 1))) (b_fEntry (f * 6 + (hc - 1))) := VRm_sub (q22 _ (by omega)).2 (q22 _ (by omega)).1 (q21.2.1 (by decide)) hvv
  obtain ⟨ru, hru, eu1, eu2⟩ := v_ref (sec_v q23 x1) (q22 _ (by omega)) (q21.2.2.1 rfl)
  rw [show hc - 2 = hc - 1 - 1 by omega] at eu1
  cases ru with
  | zero =>
    refine so_end f_flowHeight f_latestResult a_typeAbove a_fieldSet a_methodType a_methodName a_codeLength a_bytes a_isStart a_heightAt a_kindsAt a_isWaiting a_flowKinds a_globals a_objectType a_fieldValue a_isMarked a_frameMethod a_frameAt a_frameHeight a_slots g_result g_bad g_high g_refs g_code b_ownField b_starts b_seen b_done b_heights b_local b_sure b_objType b_objField b_marked b_global b_fMethod b_fPc b_fHigh b_fLocal b_fEntry (h' := h) (r := 1) (u' := (nI tc, nI mc, 1, -1, f_flowHeight, nI (f + 1), nI t, 1, 1, a_typeAbove, a_fieldSet, a_methodType, a_methodName, a_codeLength, a_bytes, a_isStart, a_heightAt, a_kindsAt, a_isWaiting, a_flowKinds, a_globals, a_objectType, a_fieldValue, a_isMarked, a_frameMethod, upd a_frameAt f (nI (p + 2)), upd (upd a_frameHeight f (nI (hc - 1))) f (nI (hc - 1 - 1)), a_slots)) (v' := (nI tc, nI mc, -1, g_result, 1, g_bad, g_high, g_refs, nI (f + 1), nI t, 1, a_typeAbove, b_ownField, a_methodType, a_methodName, a_codeLength, a_bytes, b_starts, b_seen, b_done, b_heights, b_local, b_sure, b_objType, b_objField, b_marked, b_global, b_fMethod, b_fPc, b_fHigh, b_fLocal, b_fEntry)) C ⟨tc, mc, h, ⟨rfl, rfl, rfl, rfl, rfl, rfl, rfl, rfl, rfl, rfl, rfl, rfl, rfl, C.1, C.2.1, C.2.2.1, HH⟩, rfl, Or.inr (Or.inl ⟨rfl, rfl⟩)⟩ (fun post J => x_pre f_flowHeight f_latestResult a_typeAbove a_fieldSet a_methodType a_methodName a_codeLength a_bytes a_isStart a_heightAt a_kindsAt a_isWaiting a_flowKinds a_globals a_objectType a_fieldValue a_isMarked a_frameMethod a_frameAt a_frameHeight a_slots g_result g_bad g_high g_refs g_code b_ownField b_starts b_seen b_done b_heights b_local b_sure b_objType b_objField b_marked b_global b_fMethod b_fPc b_fHigh b_fLocal b_fEntry C ?_) (fun post J => y_pre f_flowHeight f_latestResult a_typeAbove a_fieldSet a_methodType a_methodName a_codeLength a_bytes a_isStart a_heightAt a_kindsAt a_isWaiting a_flowKinds a_globals a_objectType a_fieldValue a_isMarked a_frameMethod a_frameAt a_frameHeight a_slots g_result g_bad g_high g_refs g_code b_ownField b_starts b_seen b_done b_heights b_local b_sure b_objType b_objField b_marked b_global b_fMethod b_fPc b_fHigh b_fLocal b_fEntry C (fun b1 hb1 hb2 => ?_))
    · show wX_step_55 post (nI f) (nI 15) (nI 2) (nI b) (nI tc) (nI mc) 1 (-1) f_flowHeight (nI (f + 1)) (nI t) (-1) f_latestResult a_typeAbove a_fieldSet a_methodType a_methodName a_codeLength a_bytes a_isStart a_heightAt a_kindsAt a_isWaiting a_flowKinds a_globals a_objectType a_fieldValue a_isMarked a_frameMethod a_frameAt a_frameHeight a_slots
      exact br_f (by decide) (br_f (by decide) (br_f (by decide) (br_f (by decide) (br_f (by decide) (br_f (by decide) (br_f (by decide) (br_t (by decide) (ex_put (nI tc) (nI mc) 1 (-1) f_flowHeight (nI (f + 1)) (nI t) (-1) f_latestResult a_typeAbove a_fieldSet a_methodType a_methodName a_codeLength a_bytes a_isStart a_heightAt a_kindsAt a_isWaiting a_flowKinds a_globals a_objectType a_fieldValue a_isMarked a_frameMethod a_frameAt a_frameHeight a_slots (r := 0) (by omega) q18 x1 q5 (by omega) hb16 eu1 (fun _ => x206 (nI tc) (nI mc) 1 (-1) f_flowHeight (nI (f + 1)) (nI t) 1 1 a_typeAbove a_fieldSet a_methodType a_methodName a_codeLength a_bytes a_isStart a_heightAt a_kindsAt a_isWaiting a_flowKinds a_globals a_objectType a_fieldValue a_isMarked a_frameMethod a_frameAt (upd (upd a_frameHeight f (nI (hc - 1))) f (nI (hc - 1 - 1))) a_slots (by omega) q16 J) (fun o e => absurd e (by omega))))))))))
    · rw [hb1 rfl, if_pos (by omega), if_pos x1, eu2, yR_0]
      exact br_f (by decide) (br_f (by decide) (br_f (by decide) (br_f (by decide) (br_f (by decide) (br_f (by decide) (br_t (by decide) (br_f (by decide) J)))))))
  | succ ob =>
    rw [yR_s] at eu2
    obtain ⟨ty, hty, t1, t2, -, -⟩ := HH.2.2 ob (by omega)
    cases hb : bt (a_fieldSet ty) b
    · refine so_end f_flowHeight f_latestResult a_typeAbove a_fieldSet a_methodType a_methodName a_codeLength a_bytes a_isStart a_heightAt a_kindsAt a_isWaiting a_flowKinds a_globals a_objectType a_fieldValue a_isMarked a_frameMethod a_frameAt a_frameHeight a_slots g_result g_bad g_high g_refs g_code b_ownField b_starts b_seen b_done b_heights b_local b_sure b_objType b_objField b_marked b_global b_fMethod b_fPc b_fHigh b_fLocal b_fEntry (h' := h) (r := 1) (u' := (nI tc, nI mc, 1, -1, f_flowHeight, nI (f + 1), nI t, 1, 3, a_typeAbove, a_fieldSet, a_methodType, a_methodName, a_codeLength, a_bytes, a_isStart, a_heightAt, a_kindsAt, a_isWaiting, a_flowKinds, a_globals, a_objectType, a_fieldValue, a_isMarked, a_frameMethod, upd a_frameAt f (nI (p + 2)), upd (upd a_frameHeight f (nI (hc - 1))) f (nI (hc - 1 - 1)), a_slots)) (v' := (nI tc, nI mc, -1, g_result, 1, g_bad, g_high, g_refs, nI (f + 1), nI t, 3, a_typeAbove, b_ownField, a_methodType, a_methodName, a_codeLength, a_bytes, b_starts, b_seen, b_done, b_heights, b_local, b_sure, b_objType, b_objField, b_marked, b_global, b_fMethod, b_fPc, b_fHigh, b_fLocal, b_fEntry)) C ⟨tc, mc, h, ⟨rfl, rfl, rfl, rfl, rfl, rfl, rfl, rfl, rfl, rfl, rfl, rfl, rfl, C.1, C.2.1, C.2.2.1, HH⟩, rfl, Or.inr (Or.inl ⟨rfl, rfl⟩)⟩ (fun post J => x_pre f_flowHeight f_latestResult a_typeAbove a_fieldSet a_methodType a_methodName a_codeLength a_bytes a_isStart a_heightAt a_kindsAt a_isWaiting a_flowKinds a_globals a_objectType a_fieldValue a_isMarked a_frameMethod a_frameAt a_frameHeight a_slots g_result g_bad g_high g_refs g_code b_ownField b_starts b_seen b_done b_heights b_local b_sure b_objType b_objField b_marked b_global b_fMethod b_fPc b_fHigh b_fLocal b_fEntry C ?_) (fun post J => y_pre f_flowHeight f_latestResult a_typeAbove a_fieldSet a_methodType a_methodName a_codeLength a_bytes a_isStart a_heightAt a_kindsAt a_isWaiting a_flowKinds a_globals a_objectType a_fieldValue a_isMarked a_frameMethod a_frameAt a_frameHeight a_slots g_result g_bad g_high g_refs g_code b_ownField b_starts b_seen b_done b_heights b_local b_sure b_objType b_objField b_marked b_global b_fMethod b_fPc b_fHigh b_fLocal b_fEntry C (fun b1 hb1 hb2 => ?_))
      · show wX_step_55 post (nI f) (nI 15) (nI 2) (nI b) (nI tc) (nI mc) 1 (-1) f_flowHeight (nI (f + 1)) (nI t) (-1) f_latestResult a_typeAbove a_fieldSet a_methodType a_methodName a_codeLength a_bytes a_isStart a_heightAt a_kindsAt a_isWaiting a_flowKinds a_globals a_objectType a_fieldValue a_isMarked a_frameMethod a_frameAt a_frameHeight a_slots
        exact br_f (by decide) (br_f (by decide) (br_f (by decide) (br_f (by decide) (br_f (by decide) (br_f (by decide) (br_f (by decide) (br_t (by decide) (ex_put (nI tc) (nI mc) 1 (-1) f_flowHeight (nI (f + 1)) (nI t) (-1) f_latestResult a_typeAbove a_fieldSet a_methodType a_methodName a_codeLength a_bytes a_isStart a_heightAt a_kindsAt a_isWaiting a_flowKinds a_globals a_objectType a_fieldValue a_isMarked a_frameMethod a_frameAt a_frameHeight a_slots (r := ob + 1) (by omega) q18 x1 q5 (by omega) hb16 eu1 (fun e => absurd e (by omega)) (fun o e => by cases e; exact ⟨ty, by omega, t1, fun _ => x206 (nI tc) (nI mc) 1 (-1) f_flowHeight (nI (f + 1)) (nI t) 1 3 a_typeAbove a_fieldSet a_methodType a_methodName a_codeLength a_bytes a_isStart a_heightAt a_kindsAt a_isWaiting a_flowKinds a_globals a_objectType a_fieldValue a_isMarked a_frameMethod a_frameAt (upd (upd a_frameHeight f (nI (hc - 1))) f (nI (hc - 1 - 1))) a_slots (by omega) q16 J, fun z => by rw [hb] at z; exact nomatch z⟩)))))))))
      · rw [hb1 rfl, if_pos (by omega), if_pos x1, eu2]
        refine br_f (by decide) (br_f (by decide) (br_f (by decide) (br_f (by decide) (br_f (by decide) (br_f (by decide) (br_t (by decide) (br_t (nI_pos' (by omega)) (br_f (by decide) (br_t (by decide) ⟨vp_in_nI (by omega) (by omega), ?_⟩)))))))))
        rw [nI_clamp (by omega), t2]
        refine ev_yhas (nI tc) (nI mc) (-1) g_result 1 g_bad g_high g_refs (nI (f + 1)) (nI t) g_code a_typeAbove b_ownField a_methodType a_methodName a_codeLength a_bytes b_starts b_seen b_done b_heights b_local b_sure b_objType b_objField b_marked b_global b_fMethod b_fPc b_fHigh b_fLocal b_fEntry C.1 hb16 hty ?_
        rw [hb]
        exact br_t rfl J
    · have HP := rl_Hp (o := ob) (t := ty) (f := b) HH (by omega) t1 hty C.1.1 hb16 hb hvk
      refine so_top f_flowHeight f_latestResult a_typeAbove a_fieldSet a_methodType a_methodName a_codeLength a_bytes a_isStart a_heightAt a_kindsAt a_isWaiting a_flowKinds a_globals a_objectType a_fieldValue a_isMarked a_frameMethod a_frameAt a_frameHeight a_slots g_result g_bad g_high g_refs g_code b_ownField b_starts b_seen b_done b_heights b_local b_sure b_objType b_objField b_marked b_global b_fMethod b_fPc b_fHigh b_fLocal b_fEntry (t' := t) (p' := p + 2) (h' := h) (gl' := a_globals) (ot' := a_objectType) (fv' := upd a_fieldValue ((ob + 1) * 16 + b) (a_slots (f * 9 + 4 + (hc - 1)))) (xm' := a_isMarked) (fa' := upd a_frameAt f (nI (p + 2))) (fh' := upd (upd a_frameHeight f (nI (hc - 1))) f (nI (hc - 1 - 1))) (sl' := a_slots) (yg' := b_global) (yt' := b_objType) (yf' := upd b_objField (ob * 16 + b) (b_fEntry (f * 6 + (hc - 1)))) (ym' := b_marked) (yp' := upd b_fPc f (nI (p + 2))) (yh' := upd b_fHigh f (nI (hc - 2))) (yl' := b_fLocal) (ye' := b_fEntry) C (Or.inr ⟨by decide, by decide, rfl⟩) (Nat.le_refl _) HP (Or.inl ⟨rfl, by omega⟩) (fun i hi => pk_un (by omega)) (fun i hi => pk_un (by omega)) (fun i hi => by rw [pk_un (by omega), pk_un (by omega)]) (fun i hi => pk_un (by omega)) (fun i s hi hs => rfl) (fun i s hi hs => rfl) pk_us pk_us pk_us pk_us ?hs ?gX ?gY
      case hs => exact vr_none q21 rfl (by decide) (Nat.le_refl h) q23
      case gX =>
        intro post J
        refine x_pre f_flowHeight f_latestResult a_typeAbove a_fieldSet a_methodType a_methodName a_codeLength a_bytes a_isStart a_heightAt a_kindsAt a_isWaiting a_flowKinds a_globals a_objectType a_fieldValue a_isMarked a_frameMethod a_frameAt a_frameHeight a_slots g_result g_bad g_high g_refs g_code b_ownField b_starts b_seen b_done b_heights b_local b_sure b_objType b_objField b_marked b_global b_fMethod b_fPc b_fHigh b_fLocal b_fEntry C ?_
        show wX_step_55 post (nI f) (nI 15) (nI 2) (nI b) (nI tc) (nI mc) 1 (-1) f_flowHeight (nI (f + 1)) (nI t) (-1) f_latestResult a_typeAbove a_fieldSet a_methodType a_methodName a_codeLength a_bytes a_isStart a_heightAt a_kindsAt a_isWaiting a_flowKinds a_globals a_objectType a_fieldValue a_isMarked a_frameMethod a_frameAt a_frameHeight a_slots
        exact br_f (by decide) (br_f (by decide) (br_f (by decide) (br_f (by decide) (br_f (by decide) (br_f (by decide) (br_f (by decide) (br_t (by decide) (ex_put (nI tc) (nI mc) 1 (-1) f_flowHeight (nI (f + 1)) (nI t) (-1) f_latestResult a_typeAbove a_fieldSet a_methodType a_methodName a_codeLength a_bytes a_isStart a_heightAt a_kindsAt a_isWaiting a_flowKinds a_globals a_objectType a_fieldValue a_isMarked a_frameMethod a_frameAt a_frameHeight a_slots (r := ob + 1) (by omega) q18 x1 q5 (by omega) hb16 eu1 (fun e => absurd e (by omega)) (fun o e => by cases e; exact ⟨ty, by omega, t1, fun z => by (rw [hb] at z; exact nomatch z), fun _ => x206 (nI tc) (nI mc) 1 (-1) f_flowHeight (nI (f + 1)) (nI t) (-1) f_latestResult a_typeAbove a_fieldSet a_methodType a_methodName a_codeLength a_bytes a_isStart a_heightAt a_kindsAt a_isWaiting a_flowKinds a_globals a_objectType _ a_isMarked a_frameMethod a_frameAt _ a_slots (by omega) q16 J⟩)))))))))
      case gY =>
        intro post J
        refine y_pre f_flowHeight f_latestResult a_typeAbove a_fieldSet a_methodType a_methodName a_codeLength a_bytes a_isStart a_heightAt a_kindsAt a_isWaiting a_flowKinds a_globals a_objectType a_fieldValue a_isMarked a_frameMethod a_frameAt a_frameHeight a_slots g_result g_bad g_high g_refs g_code b_ownField b_starts b_seen b_done b_heights b_local b_sure b_objType b_objField b_marked b_global b_fMethod b_fPc b_fHigh b_fLocal b_fEntry C (fun b1 hb1 hb2 => ?_)
        rw [hb1 rfl, if_pos (by omega), if_pos x1, eu2]
        refine br_f (by decide) (br_f (by decide) (br_f (by decide) (br_f (by decide) (br_f (by decide) (br_f (by decide) (br_t (by decide) (br_t (nI_pos' (by omega)) (br_f (by decide) (br_t (by decide) ⟨vp_in_nI (by omega) (by omega), ?_⟩)))))))))
        rw [nI_clamp (by omega), t2]
        refine ev_yhas (nI tc) (nI mc) (-1) g_result 1 g_bad g_high g_refs (nI (f + 1)) (nI t) g_code a_typeAbove b_ownField a_methodType a_methodName a_codeLength a_bytes b_starts b_seen b_done b_heights b_local b_sure b_objType b_objField b_marked b_global b_fMethod b_fPc b_fHigh b_fLocal b_fEntry C.1 hb16 hty ?_
        rw [hb]
        refine br_f (by decide) (br_f (by decide) (br_f (by decide) (br_f (by decide) (br_f (by decide) (br_f (by decide) (br_f (by decide) (br_f (by decide) (br_f (by decide) (br_f (by decide) (br_f (by decide) (br_f (by decide) (br_f (by decide) (br_t (by decide) (?_))))))))))))))
        rw [show (nI ob * 16) + nI b = nI (ob * 16 + b) by simp (disch := omega) only [gm_ml, nI_add], nI_clamp (by omega)]
        exact ⟨vp_in_nI (by omega) (by omega), nm_e (br_f (by decide) (br_f (by decide) (br_f (by decide) (br_f (by decide) (br_f (by decide) (br_f (by decide) (br_t (by decide) (e688n (nI tc) (nI mc) (-1) g_result 1 g_bad g_high g_refs (nI (f + 1)) (nI t) g_code a_typeAbove b_ownField a_methodType a_methodName a_codeLength a_bytes b_starts b_seen b_done b_heights b_local b_sure b_objType _ b_marked b_global b_fMethod b_fPc b_fHigh b_fLocal b_fEntry (tk := 2) (by omega) q6 (by decide) q19 (by omega) q5 J))))))))⟩
end
section
theorem ex_enter (f_typeCount f_methodCount f_linked f_faultPlace f_flowHeight f_ticksLeft f_outcome f_latestResult : Int32) (a_typeAbove a_fieldSet a_methodType a_methodName a_codeLength a_bytes a_isStart a_heightAt a_kindsAt a_isWaiting a_flowKinds a_globals a_objectType a_fieldValue a_isMarked a_frameMethod a_frameAt a_frameHeight a_slots : Nat → Int32) {post : SX → Prop} {f : Nat} {m r a : Int32} (hf : f < 6) (J : post (f_typeCount, f_methodCount, f_linked, f_faultPlace, f_flowHeight, nI (f + 1), f_ticksLeft, f_outcome, f_latestResult, a_typeAbove, a_fieldSet, a_methodType, a_methodName, a_codeLength, a_bytes, a_isStart, a_heightAt, a_kindsAt, a_isWaiting, a_flowKinds, a_globals, a_objectType, a_fieldValue, a_isMarked, upd a_frameMethod f m, upd a_frameAt f 0, upd a_frameHeight f 0, upd (upd a_slots (f * 9) r) (f * 9 + 1) a)) : wpX_enter post (f_typeCount, f_methodCount, f_linked, f_faultPlace, f_flowHeight, nI f, f_ticksLeft, f_outcome, f_latestResult, a_typeAbove, a_fieldSet, a_methodType, a_methodName, a_codeLength, a_bytes, a_isStart, a_heightAt, a_kindsAt, a_isWaiting, a_flowKinds, a_globals, a_objectType, a_fieldValue, a_isMarked, a_frameMethod, a_frameAt, a_frameHeight, a_slots) m r a := by
  unfold wpX_enter
  simp (disch := omega) only [nI_clamp, gm_clL, gm_in, gm_inL, gm_ml, gm_al, gm_la, gm_sl, nI_add, pk_mul, gm_eqL, gm_leL, gm_ltL, gm_Lle, gm_Llt, gm_eq, gm_le, gm_lt, gm_m1, forall_eq, true_and, Nat.not_lt_zero, Nat.add_sub_cancel, gm_z2, gm_z3, gm_z9, gm_z16, gm_z18, gm_z32, gm_z36, gm_z64, gm_z1152, not_true_eq_false, not_false_eq_true, false_implies, true_implies, and_true, implies_true]
  exact J
theorem ey_start (g_types g_methods g_place g_result g_linked g_bad g_high g_refs g_ticks g_code : Int32) (b_above b_ownField b_mType b_mName b_mLength b_bytes b_starts : Nat → Int32) (b_seen b_done : Nat → Int64) (b_heights b_local b_sure b_objType b_objField b_marked b_global b_fMethod b_fPc b_fHigh b_fLocal b_fEntry : Nat → Int32) {post : SY → Prop} {f : Nat} {m r a : Int32} (hf : f < 6) (J : post (g_types, g_methods, g_place, g_result, g_linked, g_bad, g_high, g_refs, nI (f + 1), g_ticks, g_code, b_above, b_ownField, b_mType, b_mName, b_mLength, b_bytes, b_starts, b_seen, b_done, b_heights, b_local, b_sure, b_objType, b_objField, b_marked, b_global, upd b_fMethod f m, upd b_fPc f 0, upd b_fHigh f 0, upd (upd b_fLocal (f * 4) r) (f * 4 + 1) a, b_fEntry)) : wpY_start post (g_types, g_methods, g_place, g_result, g_linked, g_bad, g_high, g_refs, nI f, g_ticks, g_code, b_above, b_ownField, b_mType, b_mName, b_mLength, b_bytes, b_starts, b_seen, b_done, b_heights, b_local, b_sure, b_objType, b_objField, b_marked, b_global, b_fMethod, b_fPc, b_fHigh, b_fLocal, b_fEntry) m r a := by
  unfold wpY_start
  simp (disch := omega) only [nI_clamp, gm_clL, gm_in, gm_inL, gm_ml, gm_al, gm_la, gm_sl, nI_add, pk_mul, gm_eqL, gm_leL, gm_ltL, gm_Lle, gm_Llt, gm_eq, gm_le, gm_lt, gm_m1, forall_eq, true_and, Nat.not_lt_zero, Nat.add_sub_cancel, gm_z2, gm_z3, gm_z9, gm_z16, gm_z18, gm_z32, gm_z36, gm_z64, gm_z1152, not_true_eq_false, not_false_eq_true, false_implies, true_implies, and_true, implies_true]
  exact J
/-- a new frame on top -/
theorem F1_new {tc mc h f m2 r : Nat} {mL mN by' H K su fm fa fh sl ym yp yh yl ye : Nat → Int32} {ax ay : Int32} (h8 : mc ≤ 8) (LK : rl_L tc mc mN mL by' H K su) (KB : ∀ i, ∃ a, a < 8 ∧ K i = nI a) (hm : m2 < mc) (hr : r ≤ h) (hv : VRm h (is_ak (gm_n (mN m2))) ax ay) : H (m2 * 32 + 0) = nI 0 ∧ F1 mc h mL K (upd fm f (nI m2)) (upd fa f 0) (upd fh f 0) (upd (upd sl (f * 9) (nI r)) (f * 9 + 1) ax) (upd ym f (nI m2)) (upd yp f 0) (upd yh f 0) (upd (upd yl (f * 4) (yR r)) (f * 4 + 1) ay) ye f m2 0 0 := by
  obtain ⟨S, F, k0, k1, k2⟩ := LK _ hm
  obtain ⟨-, -, w0, w1, w2, w3⟩ := wy_iD (nm := gm_n (mN m2))
  refine ⟨k0, hm, F.1, by omega, pk_us, pk_us, pk_us, pk_us, pk_us, pk_us, fun s hs => ?_⟩
  have kin := k1 s (by omega)
  rcases (by omega : s = 0 ∨ s = 1 ∨ s = 2 ∨ s = 3) with rfl | rfl | rfl | rfl
  · rw [w0] at kin
    have e1 : upd (upd sl (f * 9) (nI r)) (f * 9 + 1) ax (f * 9 + 0) = nI r := by rw [pk_un (by omega)]; exact pk_us
    have e2 : ysl (upd (upd yl (f * 4) (yR r)) (f * 4 + 1) ay) ye f 0 = yR r := by rw [ysl_0 (by omega), pk_un (by omega)]; exact pk_us
    rw [e1, e2]
    refine ⟨fun _ => ⟨r, hr, rfl, rfl⟩, fun z => ?_⟩
    rw [z] at kin
    exact absurd (kd_2 1 (by omega) kin) (by decide)
  · rw [w1] at kin
    rw [pk_us, ysl_0 (by omega), pk_us]
    unfold is_ak at hv
    refine ⟨fun z => ?_, fun z => ?_⟩
    · rw [z] at kin
      by_cases e : gm_n (mN m2) / 4 % 2 = 0
      · rw [if_pos e] at kin
        exact absurd (kd_4 0 (by omega) kin) (by decide)
      · rw [if_neg e] at hv
        exact hv.1 rfl
    · rw [z] at kin
      by_cases e : gm_n (mN m2) / 4 % 2 = 0
      · rw [if_pos e] at hv
        exact hv.2 rfl
      · rw [if_neg e] at kin
        exact absurd (kd_2 1 (by omega) kin) (by decide)
  · rw [w2] at kin
    refine ⟨fun z => ?_, fun z => ?_⟩
    · rw [z] at kin; exact absurd (kd_4 2 (by omega) kin) (by decide)
    · rw [z] at kin; exact absurd (kd_2 2 (by omega) kin) (by decide)
  · rw [w3] at kin
    refine ⟨fun z => ?_, fun z => ?_⟩
    · rw [z] at kin; exact absurd (kd_4 2 (by omega) kin) (by decide)
    · rw [z] at kin; exact absurd (kd_2 2 (by omega) kin) (by decide)
theorem ex_call (f_typeCount f_linked f_faultPlace f_flowHeight f_outcome f_latestResult : Int32) (a_typeAbove a_fieldSet a_methodType a_methodName a_codeLength a_bytes a_isStart a_heightAt a_kindsAt a_isWaiting a_flowKinds a_globals a_objectType a_fieldValue a_isMarked a_frameMethod a_frameAt a_frameHeight a_slots : Nat → Int32) {post : SX → Prop} {f t h r mc : Nat} {y : Int32} {q : Option Nat} (hf : f < 6) (ht : t ≤ 100) (hh : a_frameHeight f = nI h) (h2 : 2 ≤ h) (h5 : h ≤ 5) (hr : r ≤ 10) (h8 : mc ≤ 8) (er : a_slots (f * 9 + 4 + (h - 1 - 1)) = nI r) (hq : ∀ m, q = some m → m < mc)
    (K : ∀ o, r = o + 1 → ∀ post : Int32 → Prop, post (foE q) → wpX_findMethod post (f_typeCount, nI mc, f_linked, f_faultPlace, f_flowHeight, nI (f + 1), nI t, f_outcome, f_latestResult, a_typeAbove, a_fieldSet, a_methodType, a_methodName, a_codeLength, a_bytes, a_isStart, a_heightAt, a_kindsAt, a_isWaiting, a_flowKinds, a_globals, a_objectType, a_fieldValue, a_isMarked, a_frameMethod, a_frameAt, upd (upd a_frameHeight f (nI (h - 1))) f (nI (h - 1 - 1)), a_slots) (a_objectType (o + 1)) y)
    (J0 : r = 0 → post (f_typeCount, nI mc, f_linked, f_faultPlace, f_flowHeight, nI (f + 1), nI t, 1, 1, a_typeAbove, a_fieldSet, a_methodType, a_methodName, a_codeLength, a_bytes, a_isStart, a_heightAt, a_kindsAt, a_isWaiting, a_flowKinds, a_globals, a_objectType, a_fieldValue, a_isMarked, a_frameMethod, a_frameAt, upd (upd a_frameHeight f (nI (h - 1))) f (nI (h - 1 - 1)), a_slots))
    (J4 : r ≠ 0 → q = none → post (f_typeCount, nI mc, f_linked, f_faultPlace, f_flowHeight, nI (f + 1), nI t, 1, 4, a_typeAbove, a_fieldSet, a_methodType, a_methodName, a_codeLength, a_bytes, a_isStart, a_heightAt, a_kindsAt, a_isWaiting, a_flowKinds, a_globals, a_objectType, a_fieldValue, a_isMarked, a_frameMethod, a_frameAt, upd (upd a_frameHeight f (nI (h - 1))) f (nI (h - 1 - 1)), a_slots))
    (J5 : r ≠ 0 → q ≠ none → f = 5 → post (f_typeCount, nI mc, f_linked, f_faultPlace, f_flowHeight, nI (f + 1), nI t, 1, 5, a_typeAbove, a_fieldSet, a_methodType, a_methodName, a_codeLength, a_bytes, a_isStart, a_heightAt, a_kindsAt, a_isWaiting, a_flowKinds, a_globals, a_objectType, a_fieldValue, a_isMarked, a_frameMethod, a_frameAt, upd (upd a_frameHeight f (nI (h - 1))) f (nI (h - 1 - 1)), a_slots))
    (J2 : r ≠ 0 → q ≠ none → f ≠ 5 → t = 0 → post (f_typeCount, nI mc, f_linked, f_faultPlace, f_flowHeight, nI (f + 1), nI t, 2, 0, a_typeAbove, a_fieldSet, a_methodType, a_methodName, a_codeLength, a_bytes, a_isStart, a_heightAt, a_kindsAt, a_isWaiting, a_flowKinds, a_globals, a_objectType, a_fieldValue, a_isMarked, a_frameMethod, a_frameAt, upd (upd a_frameHeight f (nI (h - 1))) f (nI (h - 1 - 1)), a_slots))
    (J1 : r ≠ 0 → ∀ m t', q = some m → f ≠ 5 → t = t' + 1 → post (f_typeCount, nI mc, f_linked, f_faultPlace, f_flowHeight, nI (f + 1 + 1), nI t', f_outcome, f_latestResult, a_typeAbove, a_fieldSet, a_methodType, a_methodName, a_codeLength, a_bytes, a_isStart, a_heightAt, a_kindsAt, a_isWaiting, a_flowKinds, a_globals, a_objectType, a_fieldValue, a_isMarked, upd a_frameMethod (f + 1) (nI m), upd a_frameAt (f + 1) 0, upd (upd (upd a_frameHeight f (nI (h - 1))) f (nI (h - 1 - 1))) (f + 1) 0, upd (upd a_slots ((f + 1) * 9) (nI r)) ((f + 1) * 9 + 1) (a_slots (f * 9 + 4 + (h - 1))))) :
    wpX_callMethod post (f_typeCount, nI mc, f_linked, f_faultPlace, f_flowHeight, nI (f + 1), nI t, f_outcome, f_latestResult, a_typeAbove, a_fieldSet, a_methodType, a_methodName, a_codeLength, a_bytes, a_isStart, a_heightAt, a_kindsAt, a_isWaiting, a_flowKinds, a_globals, a_objectType, a_fieldValue, a_isMarked, a_frameMethod, a_frameAt, a_frameHeight, a_slots) (nI f) y := by
  unfold wpX_callMethod
  refine ex_pop f_typeCount (nI mc) f_linked f_faultPlace f_flowHeight (nI (f + 1)) (nI t) f_outcome f_latestResult a_typeAbove a_fieldSet a_methodType a_methodName a_codeLength a_bytes a_isStart a_heightAt a_kindsAt a_isWaiting a_flowKinds a_globals a_objectType a_fieldValue a_isMarked a_frameMethod a_frameAt a_frameHeight a_slots hf hh (by omega) h5 (ex_pop f_typeCount (nI mc) f_linked f_faultPlace f_flowHeight (nI (f + 1)) (nI t) f_outcome f_latestResult a_typeAbove a_fieldSet a_methodType a_methodName a_codeLength a_bytes a_isStart a_heightAt a_kindsAt a_isWaiting a_flowKinds a_globals a_objectType a_fieldValue a_isMarked a_frameMethod a_frameAt (upd a_frameHeight f (nI (h - 1))) a_slots hf pk_us (by omega) (by omega) ?_)
  dsimp only
  rw [er]
  cases r with
  | zero => exact br_t rfl (J0 rfl)
  | succ o =>
    refine br_f (nI_ne0 (by omega) (by omega)) ⟨vp_in_nI (by omega) (by omega), ?_⟩
    rw [nI_clamp (by omega)]
    refine K o rfl _ ?_
    cases q with
    | none => exact br_t rfl (J4 (by omega) rfl)
    | some m =>
      have hm := hq m rfl
      refine br_f (of_eq_false (gm_m1 (by omega))) (pk_eq (f + 1) 6 (fun e => J5 (by omega) (fun z => nomatch z) (by omega)) (fun e => ?_))
      cases t with
      | zero => exact ex_tick0 f_typeCount (nI mc) f_linked f_faultPlace f_flowHeight (nI (f + 1)) f_outcome f_latestResult a_typeAbove a_fieldSet a_methodType a_methodName a_codeLength a_bytes a_isStart a_heightAt a_kindsAt a_isWaiting a_flowKinds a_globals a_objectType a_fieldValue a_isMarked a_frameMethod a_frameAt (upd (upd a_frameHeight f (nI (h - 1))) f (nI (h - 1 - 1))) a_slots (br_t rfl (J2 (by omega) (fun z => nomatch z) (by omega) rfl))
      | succ t =>
        refine ex_tick1 f_typeCount (nI mc) f_linked f_faultPlace f_flowHeight (nI (f + 1)) f_outcome f_latestResult a_typeAbove a_fieldSet a_methodType a_methodName a_codeLength a_bytes a_isStart a_heightAt a_kindsAt a_isWaiting a_flowKinds a_globals a_objectType a_fieldValue a_isMarked a_frameMethod a_frameAt (upd (upd a_frameHeight f (nI (h - 1))) f (nI (h - 1 - 1))) a_slots (by omega) (br_f (by decide) ?_)
        exact ex_enter f_typeCount (nI mc) f_linked f_faultPlace f_flowHeight (nI t) f_outcome f_latestResult a_typeAbove a_fieldSet a_methodType a_methodName a_codeLength a_bytes a_isStart a_heightAt a_kindsAt a_isWaiting a_flowKinds a_globals a_objectType a_fieldValue a_isMarked a_frameMethod a_frameAt (upd (upd a_frameHeight f (nI (h - 1))) f (nI (h - 1 - 1))) a_slots (by omega) (J1 (by omega) m t rfl (by omega) rfl)
theorem ey_enter (g_types g_place g_result g_linked g_bad g_high g_refs g_code : Int32) (b_above b_ownField b_mType b_mName b_mLength b_bytes b_starts : Nat → Int32) (b_seen b_done : Nat → Int64) (b_heights b_local b_sure b_objType b_objField b_marked b_global b_fMethod b_fPc b_fHigh b_fLocal b_fEntry : Nat → Int32) {post : Int32 → SY → Prop} {f t h r mc : Nat} {y a : Int32} {q : Option Nat} (hf : f < 6) (ht : t ≤ 100) (hh : b_fHigh f = nI h) (h2 : 2 ≤ h) (h5 : h ≤ 5) (hr : r ≤ 10) (h8 : mc ≤ 8) (hq : ∀ m, q = some m → m < mc)
    (K : ∀ o, r = o + 1 → ∀ post : Int32 → Prop, post (foE q) → wpY_methodOf post (g_types, nI mc, g_place, g_result, g_linked, g_bad, g_high, g_refs, nI (f + 1), nI t, g_code, b_above, b_ownField, b_mType, b_mName, b_mLength, b_bytes, b_starts, b_seen, b_done, b_heights, b_local, b_sure, b_objType, b_objField, b_marked, b_global, b_fMethod, b_fPc, b_fHigh, b_fLocal, b_fEntry) (b_objType o) y)
    (J0 : r = 0 → post 1 (g_types, nI mc, g_place, g_result, g_linked, g_bad, g_high, g_refs, nI (f + 1), nI t, 1, b_above, b_ownField, b_mType, b_mName, b_mLength, b_bytes, b_starts, b_seen, b_done, b_heights, b_local, b_sure, b_objType, b_objField, b_marked, b_global, b_fMethod, b_fPc, b_fHigh, b_fLocal, b_fEntry))
    (J4 : r ≠ 0 → q = none → post 1 (g_types, nI mc, g_place, g_result, g_linked, g_bad, g_high, g_refs, nI (f + 1), nI t, 4, b_above, b_ownField, b_mType, b_mName, b_mLength, b_bytes, b_starts, b_seen, b_done, b_heights, b_local, b_sure, b_objType, b_objField, b_marked, b_global, b_fMethod, b_fPc, b_fHigh, b_fLocal, b_fEntry))
    (J5 : r ≠ 0 → q ≠ none → f = 5 → post 1 (g_types, nI mc, g_place, g_result, g_linked, g_bad, g_high, g_refs, nI (f + 1), nI t, 5, b_above, b_ownField, b_mType, b_mName, b_mLength, b_bytes, b_starts, b_seen, b_done, b_heights, b_local, b_sure, b_objType, b_objField, b_marked, b_global, b_fMethod, b_fPc, b_fHigh, b_fLocal, b_fEntry))
    (J2 : r ≠ 0 → q ≠ none → f ≠ 5 → t = 0 → post 2 (g_types, nI mc, g_place, g_result, g_linked, g_bad, g_high, g_refs, nI (f + 1), nI t, g_code, b_above, b_ownField, b_mType, b_mName, b_mLength, b_bytes, b_starts, b_seen, b_done, b_heights, b_local, b_sure, b_objType, b_objField, b_marked, b_global, b_fMethod, b_fPc, b_fHigh, b_fLocal, b_fEntry))
    (J1 : r ≠ 0 → ∀ m t', q = some m → f ≠ 5 → t = t' + 1 → post (-1) (g_types, nI mc, g_place, g_result, g_linked, g_bad, g_high, g_refs, nI (f + 1 + 1), nI t', g_code, b_above, b_ownField, b_mType, b_mName, b_mLength, b_bytes, b_starts, b_seen, b_done, b_heights, b_local, b_sure, b_objType, b_objField, b_marked, b_global, upd b_fMethod (f + 1) (nI m), upd b_fPc (f + 1) 0, upd (upd b_fHigh f (nI (h - 2))) (f + 1) 0, upd (upd b_fLocal ((f + 1) * 4) (yR r)) ((f + 1) * 4 + 1) a, b_fEntry)) :
    wpY_enter post (g_types, nI mc, g_place, g_result, g_linked, g_bad, g_high, g_refs, nI (f + 1), nI t, g_code, b_above, b_ownField, b_mType, b_mName, b_mLength, b_bytes, b_starts, b_seen, b_done, b_heights, b_local, b_sure, b_objType, b_objField, b_marked, b_global, b_fMethod, b_fPc, b_fHigh, b_fLocal, b_fEntry) (yR r) y a := by
  unfold wpY_enter
  cases r with
  | zero =>
    rw [yR_0]
    exact br_f (by decide) (J0 rfl)
  | succ o =>
    rw [yR_s] at J1 ⊢
    refine br_t (nI_pos' (by omega)) ⟨vp_in_nI (by omega) (by omega), ?_⟩
    rw [nI_clamp (by omega)]
    refine K o rfl _ ?_
    cases q with
    | none => exact br_f (by decide) (J4 (by omega) rfl)
    | some m =>
      have hm := hq m rfl
      refine br_t (nI_pos' (by omega)) (pk_eq (f + 1) 6 (fun e => J5 (by omega) (fun z => nomatch z) (by omega)) (fun e => ?_))
      cases t with
      | zero => exact br_t rfl (J2 (by omega) (fun z => nomatch z) (by omega) rfl)
      | succ t =>
        refine br_f (nI_ne0 (by omega) (by omega)) (nm_r (nI_pred t) ?_)
        rw [nI_pred, nI_clamp (by omega), hh]
        refine ⟨vp_in_nI hf (by omega), vp_in_nI hf (by omega), nm_r (by rw [show nI h - 2 = nI (h - 2) from gm_sl (n := 2) h2]) ?_⟩
        exact ey_start g_types (nI mc) g_place g_result g_linked g_bad g_high g_refs (nI t) g_code b_above b_ownField b_mType b_mName b_mLength b_bytes b_starts b_seen b_done b_heights b_local b_sure b_objType b_objField b_marked b_global b_fMethod b_fPc (upd b_fHigh f (nI (h - 2))) b_fLocal b_fEntry (by omega) (J1 (by omega) m t rfl (by omega) rfl)
end
section
theorem op_16 (f_flowHeight f_latestResult : Int32) (a_typeAbove a_fieldSet a_methodType a_methodName a_codeLength a_bytes a_isStart a_heightAt a_kindsAt a_isWaiting a_flowKinds a_globals a_objectType a_fieldValue a_isMarked a_frameMethod a_frameAt a_frameHeight a_slots : Nat → Int32) (g_result g_bad g_high g_refs g_code : Int32) (b_ownField b_starts : Nat → Int32) (b_seen b_done : Nat → Int64) (b_heights b_local b_sure b_objType b_objField b_marked b_global b_fMethod b_fPc b_fHigh b_fLocal b_fEntry : Nat → Int32) {tc mc h f t m p hc o b nm : Nat} {mF pF hF : Nat → Nat} (C : CT tc mc h f t m p hc o b nm a_typeAbove a_fieldSet b_ownField a_methodName a_codeLength a_bytes a_heightAt a_kindsAt b_sure a_globals a_objectType a_fieldValue b_global b_objType b_objField a_frameMethod a_frameAt a_frameHeight a_slots b_fMethod b_fPc b_fHigh b_fLocal b_fEntry mF pF hF) (eo : o = 16) : SO (64 * t + sp pF (f + 1)) (nI tc, nI mc, 1, -1, f_flowHeight, nI (f + 1), nI t, -1, f_latestResult, a_typeAbove, a_fieldSet, a_methodType, a_methodName, a_codeLength, a_bytes, a_isStart, a_heightAt, a_kindsAt, a_isWaiting, a_flowKinds, a_globals, a_objectType, a_fieldValue, a_isMarked, a_frameMethod, a_frameAt, a_frameHeight, a_slots) (nI tc, nI mc, -1, g_result, 1, g_bad, g_high, g_refs, nI (f + 1), nI t, g_code, a_typeAbove, b_ownField, a_methodType, a_methodName, a_codeLength, a_bytes, b_starts, b_seen, b_done, b_heights, b_local, b_sure, b_objType, b_objField, b_marked, b_global, b_fMethod, b_fPc, b_fHigh, b_fLocal, b_fEntry) := by
  obtain ⟨q1, q2, q3, q4, q5, q6, q7, q8, q9, q10, q11, q12, q13, q14, q15, q16, q17, q18, q19, q20, q21, q22, q23, q24⟩ := ct_F C
  have f6 := C.2.2.2.2.1
  have HH := C.2.2.2.1
  subst eo
  have x1 : 2 ≤ hc := q21.1
  have hb16 : b < 16 := (q12 rfl).2.2.1 (by decide)
  have h10 := HH.1
  have t100 := C.2.2.2.2.2.1
  have hvv := top_v q23 (by omega)
  have hvk : VRm h (is_ak b) (a_slots (f * 9 + 4 + (hc - 1))) (b_fEntry (f * 6 + (hc - 1))) := VRm_sub (q22 _ (by omega)).2 (q22 _ (by omega)).1 (q21.2.1 (by decide)) hvv
  obtain ⟨ru, hru, eu1, eu2⟩ := v_ref (sec_v q23 x1) (q22 _ (by omega)) (q21.2.2.1 rfl)
  rw [show hc - 2 = hc - 1 - 1 by omega] at eu1
  -- the method
  obtain ⟨q, kq, kX, kY⟩ : ∃ q : Option Nat, (∀ m, q = some m → m < mc ∧ a_methodName m = nI b) ∧ (∀ o, ru = o + 1 → ∀ post : Int32 → Prop, post (foE q) → wpX_findMethod post (nI tc, nI mc, 1, -1, f_flowHeight, nI (f + 1), nI t, -1, f_latestResult, a_typeAbove, a_fieldSet, a_methodType, a_methodName, a_codeLength, a_bytes, a_isStart, a_heightAt, a_kindsAt, a_isWaiting, a_flowKinds, a_globals, a_objectType, a_fieldValue, a_isMarked, a_frameMethod, a_frameAt, upd (upd a_frameHeight f (nI (hc - 1))) f (nI (hc - 1 - 1)), a_slots) (a_objectType (o + 1)) (nI b)) ∧ (∀ o, ru = o + 1 → ∀ post : Int32 → Prop, post (foE q) → wpY_methodOf post (nI tc, nI mc, -1, g_result, 1, g_bad, g_high, g_refs, nI (f + 1), nI t, g_code, a_typeAbove, b_ownField, a_methodType, a_methodName, a_codeLength, a_bytes, b_starts, b_seen, b_done, b_heights, b_local, b_sure, b_objType, b_objField, b_marked, b_global, b_fMethod, b_fPc, b_fHigh, b_fLocal, b_fEntry) (b_objType o) (nI b)) := by
    cases ru with
    | zero => exact ⟨none, (fun m e => by exact nomatch e), fun o e => absurd e (by omega), fun o e => absurd e (by omega)⟩
    | succ o =>
      obtain ⟨ty, hty, t1, t2, -⟩ := HH.2.2 o (by omega)
      obtain ⟨q, k0, k1, k2⟩ := fm_find (nI tc) 1 (-1) f_flowHeight (nI (f + 1)) (nI t) (-1) f_latestResult a_typeAbove a_fieldSet a_methodType a_methodName a_codeLength a_bytes a_isStart a_heightAt a_kindsAt a_isWaiting a_flowKinds a_globals a_objectType a_fieldValue a_isMarked a_frameMethod a_frameAt (upd (upd a_frameHeight f (nI (hc - 1))) f (nI (hc - 1 - 1))) a_slots (nI tc) (-1) g_result 1 g_bad g_high g_refs (nI (f + 1)) (nI t) g_code b_ownField a_codeLength a_bytes b_starts b_seen b_done b_heights b_local b_sure b_objType b_objField b_marked b_global b_fMethod b_fPc b_fHigh b_fLocal b_fEntry (y := nI b) C.1 hty
      exact ⟨q, k0, fun o' e => by cases e; rw [t1]; exact k1, fun o' e => by cases e; rw [t2]; exact k2⟩
  have gX : ∀ post : SX → Prop, (ru = 0 → post (nI tc, nI mc, 1, -1, f_flowHeight, nI (f + 1), nI t, 1, 1, a_typeAbove, a_fieldSet, a_methodType, a_methodName, a_codeLength, a_bytes, a_isStart, a_heightAt, a_kindsAt, a_isWaiting, a_flowKinds, a_globals, a_objectType, a_fieldValue, a_isMarked, a_frameMethod, a_frameAt, upd (upd a_frameHeight f (nI (hc - 1))) f (nI (hc - 1 - 1)), a_slots)) → (ru ≠ 0 → q = none → post (nI tc, nI mc, 1, -1, f_flowHeight, nI (f + 1), nI t, 1, 4, a_typeAbove, a_fieldSet, a_methodType, a_methodName, a_codeLength, a_bytes, a_isStart, a_heightAt, a_kindsAt, a_isWaiting, a_flowKinds, a_globals, a_objectType, a_fieldValue, a_isMarked, a_frameMethod, a_frameAt, upd (upd a_frameHeight f (nI (hc - 1))) f (nI (hc - 1 - 1)), a_slots)) → (ru ≠ 0 → q ≠ none → f = 5 → post (nI tc, nI mc, 1, -1, f_flowHeight, nI (f + 1), nI t, 1, 5, a_typeAbove, a_fieldSet, a_methodType, a_methodName, a_codeLength, a_bytes, a_isStart, a_heightAt, a_kindsAt, a_isWaiting, a_flowKinds, a_globals, a_objectType, a_fieldValue, a_isMarked, a_frameMethod, a_frameAt, upd (upd a_frameHeight f (nI (hc - 1))) f (nI (hc - 1 - 1)), a_slots)) → (ru ≠ 0 → q ≠ none → f ≠ 5 → t = 0 → post (nI tc, nI mc, 1, -1, f_flowHeight, nI (f + 1), nI t, 2, 0, a_typeAbove, a_fieldSet, a_methodType, a_methodName, a_codeLength, a_bytes, a_isStart, a_heightAt, a_kindsAt, a_isWaiting, a_flowKinds, a_globals, a_objectType, a_fieldValue, a_isMarked, a_frameMethod, a_frameAt, upd (upd a_frameHeight f (nI (hc - 1))) f (nI (hc - 1 - 1)), a_slots)) → (ru ≠ 0 → ∀ m t', q = some m → f ≠ 5 → t = t' + 1 → post (nI tc, nI mc, 1, -1, f_flowHeight, nI (f + 1 + 1), nI t', -1, f_latestResult, a_typeAbove, a_fieldSet, a_methodType, a_methodName, a_codeLength, a_bytes, a_isStart, a_heightAt, a_kindsAt, a_isWaiting, a_flowKinds, a_globals, a_objectType, a_fieldValue, a_isMarked, upd a_frameMethod (f + 1) (nI m), upd a_frameAt (f + 1) 0, upd (upd (upd a_frameHeight f (nI (hc - 1))) f (nI (hc - 1 - 1))) (f + 1) 0, upd (upd a_slots ((f + 1) * 9) (nI ru)) ((f + 1) * 9 + 1) (a_slots (f * 9 + 4 + (hc - 1))))) → wpX_step post (nI tc, nI mc, 1, -1, f_flowHeight, nI (f + 1), nI t, -1, f_latestResult, a_typeAbove, a_fieldSet, a_methodType, a_methodName, a_codeLength, a_bytes, a_isStart, a_heightAt, a_kindsAt, a_isWaiting, a_flowKinds, a_globals, a_objectType, a_fieldValue, a_isMarked, a_frameMethod, a_frameAt, a_frameHeight, a_slots) := by
    intro post K0 K4 K5 K2 K1
    refine x_pre f_flowHeight f_latestResult a_typeAbove a_fieldSet a_methodType a_methodName a_codeLength a_bytes a_isStart a_heightAt a_kindsAt a_isWaiting a_flowKinds a_globals a_objectType a_fieldValue a_isMarked a_frameMethod a_frameAt a_frameHeight a_slots g_result g_bad g_high g_refs g_code b_ownField b_starts b_seen b_done b_heights b_local b_sure b_objType b_objField b_marked b_global b_fMethod b_fPc b_fHigh b_fLocal b_fEntry C ?_
    show wX_step_55 post (nI f) (nI 16) (nI 2) (nI b) (nI tc) (nI mc) 1 (-1) f_flowHeight (nI (f + 1)) (nI t) (-1) f_latestResult a_typeAbove a_fieldSet a_methodType a_methodName a_codeLength a_bytes a_isStart a_heightAt a_kindsAt a_isWaiting a_flowKinds a_globals a_objectType a_fieldValue a_isMarked a_frameMethod a_frameAt a_frameHeight a_slots
    exact br_f (by decide) (br_f (by decide) (br_f (by decide) (br_f (by decide) (br_f (by decide) (br_f (by decide) (br_f (by decide) (br_f (by decide) (br_t (by decide) (ex_call (nI tc) 1 (-1) f_flowHeight (-1) f_latestResult a_typeAbove a_fieldSet a_methodType a_methodName a_codeLength a_bytes a_isStart a_heightAt a_kindsAt a_isWaiting a_flowKinds a_globals a_objectType a_fieldValue a_isMarked a_frameMethod a_frameAt a_frameHeight a_slots (q := q) (by omega) t100 q18 x1 q5 (by omega) q2 eu1 (fun m e => (kq m e).1) kX K0 K4 K5 K2 K1)))))))))
  have gY : ∀ post : Int32 → SY → Prop, (ru = 0 → post 1 (nI tc, nI mc, -1, g_result, 1, g_bad, g_high, g_refs, nI (f + 1), nI t, 1, a_typeAbove, b_ownField, a_methodType, a_methodName, a_codeLength, a_bytes, b_starts, b_seen, b_done, b_heights, b_local, b_sure, b_objType, b_objField, b_marked, b_global, b_fMethod, b_fPc, b_fHigh, b_fLocal, b_fEntry)) → (ru ≠ 0 → q = none → post 1 (nI tc, nI mc, -1, g_result, 1, g_bad, g_high, g_refs, nI (f + 1), nI t, 4, a_typeAbove, b_ownField, a_methodType, a_methodName, a_codeLength, a_bytes, b_starts, b_seen, b_done, b_heights, b_local, b_sure, b_objType, b_objField, b_marked, b_global, b_fMethod, b_fPc, b_fHigh, b_fLocal, b_fEntry)) → (ru ≠ 0 → q ≠ none → f = 5 → post 1 (nI tc, nI mc, -1, g_result, 1, g_bad, g_high, g_refs, nI (f + 1), nI t, 5, a_typeAbove, b_ownField, a_methodType, a_methodName, a_codeLength, a_bytes, b_starts, b_seen, b_done, b_heights, b_local, b_sure, b_objType, b_objField, b_marked, b_global, b_fMethod, b_fPc, b_fHigh, b_fLocal, b_fEntry)) → (ru ≠ 0 → q ≠ none → f ≠ 5 → t = 0 → post 2 (nI tc, nI mc, -1, g_result, 1, g_bad, g_high, g_refs, nI (f + 1), nI t, g_code, a_typeAbove, b_ownField, a_methodType, a_methodName, a_codeLength, a_bytes, b_starts, b_seen, b_done, b_heights, b_local, b_sure, b_objType, b_objField, b_marked, b_global, b_fMethod, b_fPc, b_fHigh, b_fLocal, b_fEntry)) → (ru ≠ 0 → ∀ m t', q = some m → f ≠ 5 → t = t' + 1 → post (-1) (nI tc, nI mc, -1, g_result, 1, g_bad, g_high, g_refs, nI (f + 1 + 1), nI t', g_code, a_typeAbove, b_ownField, a_methodType, a_methodName, a_codeLength, a_bytes, b_starts, b_seen, b_done, b_heights, b_local, b_sure, b_objType, b_objField, b_marked, b_global, upd b_fMethod (f + 1) (nI m), upd b_fPc (f + 1) 0, upd (upd b_fHigh f (nI (hc - 2))) (f + 1) 0, upd (upd b_fLocal ((f + 1) * 4) (yR ru)) ((f + 1) * 4 + 1) (b_fEntry (f * 6 + (hc - 1))), b_fEntry)) → wpY_execute post (nI tc, nI mc, -1, g_result, 1, g_bad, g_high, g_refs, nI (f + 1), nI t, g_code, a_typeAbove, b_ownField, a_methodType, a_methodName, a_codeLength, a_bytes, b_starts, b_seen, b_done, b_heights, b_local, b_sure, b_objType, b_objField, b_marked, b_global, b_fMethod, b_fPc, b_fHigh, b_fLocal, b_fEntry) := by
    intro post K0 K4 K5 K2 K1
    refine y_pre f_flowHeight f_latestResult a_typeAbove a_fieldSet a_methodType a_methodName a_codeLength a_bytes a_isStart a_heightAt a_kindsAt a_isWaiting a_flowKinds a_globals a_objectType a_fieldValue a_isMarked a_frameMethod a_frameAt a_frameHeight a_slots g_result g_bad g_high g_refs g_code b_ownField b_starts b_seen b_done b_heights b_local b_sure b_objType b_objField b_marked b_global b_fMethod b_fPc b_fHigh b_fLocal b_fEntry C (fun b1 hb1 hb2 => ?_)
    rw [hb1 rfl, if_pos (by omega), if_pos x1, eu2]
    exact br_f (by decide) (br_t (by decide) (ey_enter (nI tc) (-1) g_result 1 g_bad g_high g_refs g_code a_typeAbove b_ownField a_methodType a_methodName a_codeLength a_bytes b_starts b_seen b_done b_heights b_local b_sure b_objType b_objField b_marked b_global b_fMethod b_fPc b_fHigh b_fLocal b_fEntry (q := q) (by omega) t100 q19 x1 q5 (by omega) q2 (fun m e => (kq m e).1) kY K0 K4 K5 K2 K1))
  by_cases r0 : ru = 0
  · refine so_end f_flowHeight f_latestResult a_typeAbove a_fieldSet a_methodType a_methodName a_codeLength a_bytes a_isStart a_heightAt a_kindsAt a_isWaiting a_flowKinds a_globals a_objectType a_fieldValue a_isMarked a_frameMethod a_frameAt a_frameHeight a_slots g_result g_bad g_high g_refs g_code b_ownField b_starts b_seen b_done b_heights b_local b_sure b_objType b_objField b_marked b_global b_fMethod b_fPc b_fHigh b_fLocal b_fEntry (h' := h) (r := 1) (u' := (nI tc, nI mc, 1, -1, f_flowHeight, nI (f + 1), nI t, 1, 1, a_typeAbove, a_fieldSet, a_methodType, a_methodName, a_codeLength, a_bytes, a_isStart, a_heightAt, a_kindsAt, a_isWaiting, a_flowKinds, a_globals, a_objectType, a_fieldValue, a_isMarked, a_frameMethod, a_frameAt, upd (upd a_frameHeight f (nI (hc - 1))) f (nI (hc - 1 - 1)), a_slots)) (v' := (nI tc, nI mc, -1, g_result, 1, g_bad, g_high, g_refs, nI (f + 1), nI t, 1, a_typeAbove, b_ownField, a_methodType, a_methodName, a_codeLength, a_bytes, b_starts, b_seen, b_done, b_heights, b_local, b_sure, b_objType, b_objField, b_marked, b_global, b_fMethod, b_fPc, b_fHigh, b_fLocal, b_fEntry)) C ⟨tc, mc, h, ⟨rfl, rfl, rfl, rfl, rfl, rfl, rfl, rfl, rfl, rfl, rfl, rfl, rfl, C.1, C.2.1, C.2.2.1, HH⟩, rfl, Or.inr (Or.inl ⟨rfl, rfl⟩)⟩ (fun post J => gX post (fun _ => J) (fun z => absurd r0 z) (fun z => absurd r0 z) (fun z => absurd r0 z) (fun z => absurd r0 z)) (fun post J => gY post (fun _ => J) (fun z => absurd r0 z) (fun z => absurd r0 z) (fun z => absurd r0 z) (fun z => absurd r0 z))
  · cases q with
    | none =>
      refine so_end f_flowHeight f_latestResult a_typeAbove a_fieldSet a_methodType a_methodName a_codeLength a_bytes a_isStart a_heightAt a_kindsAt a_isWaiting a_flowKinds a_globals a_objectType a_fieldValue a_isMarked a_frameMethod a_frameAt a_frameHeight a_slots g_result g_bad g_high g_refs g_code b_ownField b_starts b_seen b_done b_heights b_local b_sure b_objType b_objField b_marked b_global b_fMethod b_fPc b_fHigh b_fLocal b_fEntry (h' := h) (r := 1) (u' := (nI tc, nI mc, 1, -1, f_flowHeight, nI (f + 1), nI t, 1, 4, a_typeAbove, a_fieldSet, a_methodType, a_methodName, a_codeLength, a_bytes, a_isStart, a_heightAt, a_kindsAt, a_isWaiting, a_flowKinds, a_globals, a_objectType, a_fieldValue, a_isMarked, a_frameMethod, a_frameAt, upd (upd a_frameHeight f (nI (hc - 1))) f (nI (hc - 1 - 1)), a_slots)) (v' := (nI tc, nI mc, -1, g_result, 1, g_bad, g_high, g_refs, nI (f + 1), nI t, 4, a_typeAbove, b_ownField, a_methodType, a_methodName, a_codeLength, a_bytes, b_starts, b_seen, b_done, b_heights, b_local, b_sure, b_objType, b_objField, b_marked, b_global, b_fMethod, b_fPc, b_fHigh, b_fLocal, b_fEntry)) C ⟨tc, mc, h, ⟨rfl, rfl, rfl, rfl, rfl, rfl, rfl, rfl, rfl, rfl, rfl, rfl, rfl, C.1, C.2.1, C.2.2.1, HH⟩, rfl, Or.inr (Or.inl ⟨rfl, rfl⟩)⟩ (fun post J => gX post (fun z => absurd z r0) (fun _ _ => J) (fun _ z => absurd rfl z) (fun _ z => absurd rfl z) (fun _ m t' z => by exact nomatch z)) (fun post J => gY post (fun z => absurd z r0) (fun _ _ => J) (fun _ z => absurd rfl z) (fun _ z => absurd rfl z) (fun _ m t' z => by exact nomatch z))
    | some m2 =>
      obtain ⟨hm2, en2⟩ := kq m2 rfl
      have nn : (some m2 : Option Nat) ≠ none := fun z => by exact nomatch z
      by_cases f5 : f = 5
      · refine so_end f_flowHeight f_latestResult a_typeAbove a_fieldSet a_methodType a_methodName a_codeLength a_bytes a_isStart a_heightAt a_kindsAt a_isWaiting a_flowKinds a_globals a_objectType a_fieldValue a_isMarked a_frameMethod a_frameAt a_frameHeight a_slots g_result g_bad g_high g_refs g_code b_ownField b_starts b_seen b_done b_heights b_local b_sure b_objType b_objField b_marked b_global b_fMethod b_fPc b_fHigh b_fLocal b_fEntry (h' := h) (r := 1) (u' := (nI tc, nI mc, 1, -1, f_flowHeight, nI (f + 1), nI t, 1, 5, a_typeAbove, a_fieldSet, a_methodType, a_methodName, a_codeLength, a_bytes, a_isStart, a_heightAt, a_kindsAt, a_isWaiting, a_flowKinds, a_globals, a_objectType, a_fieldValue, a_isMarked, a_frameMethod, a_frameAt, upd (upd a_frameHeight f (nI (hc - 1))) f (nI (hc - 1 - 1)), a_slots)) (v' := (nI tc, nI mc, -1, g_result, 1, g_bad, g_high, g_refs, nI (f + 1), nI t, 5, a_typeAbove, b_ownField, a_methodType, a_methodName, a_codeLength, a_bytes, b_starts, b_seen, b_done, b_heights, b_local, b_sure, b_objType, b_objField, b_marked, b_global, b_fMethod, b_fPc, b_fHigh, b_fLocal, b_fEntry)) C ⟨tc, mc, h, ⟨rfl, rfl, rfl, rfl, rfl, rfl, rfl, rfl, rfl, rfl, rfl, rfl, rfl, C.1, C.2.1, C.2.2.1, HH⟩, rfl, Or.inr (Or.inl ⟨rfl, rfl⟩)⟩ (fun post J => gX post (fun z => absurd z r0) (fun _ z => absurd z nn) (fun _ _ _ => J) (fun _ _ z => absurd f5 z) (fun _ m t' _ z => absurd f5 z)) (fun post J => gY post (fun z => absurd z r0) (fun _ z => absurd z nn) (fun _ _ _ => J) (fun _ _ z => absurd f5 z) (fun _ m t' _ z => absurd f5 z))
      · by_cases t0 : t = 0
        · refine so_end f_flowHeight f_latestResult a_typeAbove a_fieldSet a_methodType a_methodName a_codeLength a_bytes a_isStart a_heightAt a_kindsAt a_isWaiting a_flowKinds a_globals a_objectType a_fieldValue a_isMarked a_frameMethod a_frameAt a_frameHeight a_slots g_result g_bad g_high g_refs g_code b_ownField b_starts b_seen b_done b_heights b_local b_sure b_objType b_objField b_marked b_global b_fMethod b_fPc b_fHigh b_fLocal b_fEntry (h' := h) (r := 2) (u' := (nI tc, nI mc, 1, -1, f_flowHeight, nI (f + 1), nI t, 2, 0, a_typeAbove, a_fieldSet, a_methodType, a_methodName, a_codeLength, a_bytes, a_isStart, a_heightAt, a_kindsAt, a_isWaiting, a_flowKinds, a_globals, a_objectType, a_fieldValue, a_isMarked, a_frameMethod, a_frameAt, upd (upd a_frameHeight f (nI (hc - 1))) f (nI (hc - 1 - 1)), a_slots)) (v' := (nI tc, nI mc, -1, g_result, 1, g_bad, g_high, g_refs, nI (f + 1), nI t, g_code, a_typeAbove, b_ownField, a_methodType, a_methodName, a_codeLength, a_bytes, b_starts, b_seen, b_done, b_heights, b_local, b_sure, b_objType, b_objField, b_marked, b_global, b_fMethod, b_fPc, b_fHigh, b_fLocal, b_fEntry)) C ⟨tc, mc, h, ⟨rfl, rfl, rfl, rfl, rfl, rfl, rfl, rfl, rfl, rfl, rfl, rfl, rfl, C.1, C.2.1, C.2.2.1, HH⟩, rfl, Or.inr (Or.inr ⟨rfl, rfl⟩)⟩ (fun post J => gX post (fun z => absurd z r0) (fun _ z => absurd z nn) (fun _ _ z => absurd z f5) (fun _ _ _ _ => J) (fun _ m t' _ _ z => absurd t0 (by omega))) (fun post J => gY post (fun z => absurd z r0) (fun _ z => absurd z nn) (fun _ _ z => absurd z f5) (fun _ _ _ _ => J) (fun _ m t' _ _ z => absurd t0 (by omega)))
        · obtain ⟨t1, rfl⟩ : ∃ k, t = k + 1 := ⟨t - 1, by omega⟩
          obtain ⟨P, KB, LK, -, -, -, R, eM, eP, eHc, eo, eb, -⟩ := C
          have enb : gm_n (a_methodName m2) = b := by rw [en2, gp_nI (by omega)]
          obtain ⟨nH, nF⟩ := F1_new (f := f + 1) (fm := a_frameMethod) (fa := a_frameAt) (fh := upd (upd a_frameHeight f (nI (hc - 1))) f (nI (hc - 1 - 1))) (sl := a_slots) (ym := b_fMethod) (yp := b_fPc) (yh := upd b_fHigh f (nI (hc - 2))) (yl := b_fLocal) (ye := b_fEntry) q2 LK KB hm2 hru (by rw [enb]; exact hvk)
          refine Or.inl ⟨(nI tc, nI mc, 1, -1, f_flowHeight, nI (f + 1 + 1), nI t1, -1, f_latestResult, a_typeAbove, a_fieldSet, a_methodType, a_methodName, a_codeLength, a_bytes, a_isStart, a_heightAt, a_kindsAt, a_isWaiting, a_flowKinds, a_globals, a_objectType, a_fieldValue, a_isMarked, upd a_frameMethod (f + 1) (nI m2), upd a_frameAt (f + 1) 0, upd (upd (upd a_frameHeight f (nI (hc - 1))) f (nI (hc - 1 - 1))) (f + 1) 0, upd (upd a_slots ((f + 1) * 9) (nI ru)) ((f + 1) * 9 + 1) (a_slots (f * 9 + 4 + (hc - 1)))), (nI tc, nI mc, -1, g_result, 1, g_bad, g_high, g_refs, nI (f + 1 + 1), nI t1, g_code, a_typeAbove, b_ownField, a_methodType, a_methodName, a_codeLength, a_bytes, b_starts, b_seen, b_done, b_heights, b_local, b_sure, b_objType, b_objField, b_marked, b_global, upd b_fMethod (f + 1) (nI m2), upd b_fPc (f + 1) 0, upd (upd b_fHigh f (nI (hc - 2))) (f + 1) 0, upd (upd b_fLocal ((f + 1) * 4) (yR ru)) ((f + 1) * 4 + 1) (b_fEntry (f * 6 + (hc - 1))), b_fEntry), 64 * t1 + sp (fun i => if i = f + 1 then 0 else pF i) (f + 1 + 1), ?_, ⟨tc, mc, h, f + 1 + 1, t1, (fun i => if i = f + 1 then m2 else mF i), (fun i => if i = f + 1 then 0 else pF i), (fun i => if i = f + 1 then 0 else if i = f then hc - 2 else hF i), ⟨rfl, rfl, rfl, rfl, rfl, rfl, rfl, rfl, rfl, rfl, rfl, rfl, rfl, P, KB, LK, HH⟩, rfl, rfl, by omega, by omega, rfl, rfl, by omega, rfl, ⟨fun i hi => ?_, fun i hi => ?_, fun i hi => ?_⟩, rfl⟩, fun post J => gX post (fun z => absurd z r0) (fun _ z => absurd z nn) (fun _ _ z => absurd z f5) (fun _ _ _ z => absurd z (by omega)) (fun _ m t' em _ et => ?_), fun post J => gY post (fun z => absurd z r0) (fun _ z => absurd z nn) (fun _ _ z => absurd z f5) (fun _ _ _ z => absurd z (by omega)) (fun _ m t' em _ et => ?_)⟩
          · rw [sp_top]
            omega
          · by_cases e : i = f + 1
            · subst e
              simp only [if_true]
              exact nF
            · obtain ⟨a1, a2, a3, a4, a5, a6, a7, a8, a9, a10⟩ := R.1 i (by omega)
              simp only [e, if_false]
              have s9 : ∀ s, s < 9 → upd (upd a_slots ((f + 1) * 9) (nI ru)) ((f + 1) * 9 + 1) (a_slots (f * 9 + 4 + (hc - 1))) (i * 9 + s) = a_slots (i * 9 + s) := fun s hs => by rw [pk_un (by omega), pk_un (by omega)]
              have y9 : ∀ s, s < 9 → ysl (upd (upd b_fLocal ((f + 1) * 4) (yR ru)) ((f + 1) * 4 + 1) (b_fEntry (f * 6 + (hc - 1)))) b_fEntry i s = ysl b_fLocal b_fEntry i s := fun s hs => by
                rw [ysl_l (by omega) (fun w => e w.1)]
                have := ysl_l (yl := b_fLocal) (ye := b_fEntry) (f := f + 1) (b := 0) (i := i) (s := s) (v := yR ru) (by omega) (fun w => e w.1)
                rw [Nat.add_zero] at this
                exact this
              by_cases e2 : i = f
              · subst e2
                simp only [if_true]
                refine ⟨a1, a2, by omega, by rw [pk_un e]; exact a4, by rw [pk_un e]; exact a5, by rw [pk_un e]; exact a6, by rw [pk_un e]; exact a7, by rw [pk_un e, pk_us, show hc - 1 - 1 = hc - 2 by omega], by rw [pk_un e, pk_us], fun s hs => ?_⟩
                rw [s9 s (by omega), y9 s (by omega)]
                exact a10 s (by rw [eHc]; omega)
              · simp only [e2, if_false]
                refine ⟨a1, a2, a3, by rw [pk_un e]; exact a4, by rw [pk_un e]; exact a5, by rw [pk_un e]; exact a6, by rw [pk_un e]; exact a7, by rw [pk_un e, pk_un e2, pk_un e2]; exact a8, by rw [pk_un e, pk_un e2]; exact a9, fun s hs => ?_⟩
                rw [s9 s (by omega), y9 s (by omega)]
                exact a10 s hs
          · by_cases e2 : i = f
            · subst e2
              have en : i ≠ i + 1 := by omega
              simp only [en, if_false, if_true]
              rw [eM, eP]
              exact ⟨by omega, by rw [show hc - 2 + 2 = hc by omega]; exact q20, eo, by rw [enb]; exact eb.symm⟩
            · have en : i ≠ f + 1 := by omega
              have en2 : i + 1 ≠ f + 1 := by omega
              simp only [en, en2, e2, if_false]
              exact R.2.1 i (by omega)
          · have e : i = f + 1 := by omega
            subst e
            simp only [if_true]
            exact nH
          · cases em
            have : t1 = t' := by omega
            subst this
            exact J
          · cases em
            have : t1 = t' := by omega
            subst this
            exact J
end
