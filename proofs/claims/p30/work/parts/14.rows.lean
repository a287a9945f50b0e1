/-! ===== rows of the abstract machine over whole numbers ===== -/
def iI (z : Int) : Int32 := Int32.ofInt z
/-- in the range of an int -/
def inI (z : Int) : Prop := -2147483648 ≤ z ∧ z < 2147483648
theorem iI_toInt {z : Int} (h : inI z) : (iI z).toInt = z := fb_ofI h.1 h.2
theorem iI_of (x : Int32) : x = iI x.toInt := (fb_asI x).symm
theorem iI_in (x : Int32) : inI x.toInt := fb_rng x
theorem iI_add (a b : Int) : iI a + iI b = iI (a + b) := (Int32.ofInt_add a b).symm
theorem iI_sub (a b : Int) : iI a - iI b = iI (a - b) := (Int32.ofInt_sub a b).symm
theorem iI_mul (a b : Int) : iI a * iI b = iI (a * b) := (Int32.ofInt_mul a b).symm
theorem iI_neg (a : Int) : -iI a = iI (-a) := (Int32.ofInt_neg a).symm
theorem iI_lt {a b : Int} (ha : inI a) (hb : inI b) : iI a < iI b ↔ a < b := by rw [Int32.lt_iff_toInt_lt, iI_toInt ha, iI_toInt hb]
theorem iI_le {a b : Int} (ha : inI a) (hb : inI b) : iI a ≤ iI b ↔ a ≤ b := by rw [Int32.le_iff_toInt_le, iI_toInt ha, iI_toInt hb]
theorem iI_eq {a b : Int} (ha : inI a) (hb : inI b) : iI a = iI b ↔ a = b := by rw [← Int32.toInt_inj, iI_toInt ha, iI_toInt hb]
theorem iI_cl {a : Int} (ha : inI a) : (iI a).toNatClampNeg = a.toNat := by show (iI a).toInt.toNat = _; rw [iI_toInt ha]
theorem iI_div {a b : Int} (ha : 0 ≤ a) (ha2 : a < 2147483648) (hb : 0 < b) (hb2 : b < 2147483648) : iI a / iI b = iI (a / b) := by
  have e1 : a.tdiv b = a / b := Int.tdiv_eq_ediv_of_nonneg ha
  rw [← e1]
  exact (Int32.ofInt_tdiv (by show (-2147483648 : Int) ≤ a; omega) (by show a ≤ (2147483647 : Int); omega) (by show (-2147483648 : Int) ≤ b; omega) (by show b ≤ (2147483647 : Int); omega)).symm
theorem iI_rem {a b : Int} (ha : 0 ≤ a) (ha2 : a < 2147483648) (hb : 0 < b) (hb2 : b < 2147483648) : iI a - iI a / iI b * iI b = iI (a % b) := by
  rw [iI_div ha ha2 hb hb2, iI_mul, iI_sub]
  congr 1
  have := Int.emod_add_mul_ediv a b
  rw [Int.mul_comm] at this
  omega
section AXR
variable {d m pc : Nat} {ls st : List Value} {h : am_H} {Q : am_R → am_H → Prop}
theorem ax_iconst {n : Int} (hf : am_tab m pc = some (.iconst n, 1, 0, 0, 0, .null)) (k : am_X d m (pc + 1) ls (.int (iI n) :: st) h Q) : am_X d m pc ls st h Q := am_X_step hf rfl rfl rfl k
theorem ax_bipush {n : Int} (hf : am_tab m pc = some (.bipush n, 2, 0, 0, 0, .null)) (k : am_X d m (pc + 2) ls (.int (iI n) :: st) h Q) (hv : (Int8.ofInt n).toInt32 = iI n := by decide) : am_X d m pc ls st h Q := am_X_step (ls' := ls) (st' := .int (iI n) :: st) hf rfl rfl (by rw [← hv]; rfl) k
theorem ax_sipush {n : Int} (hf : am_tab m pc = some (.sipush n, 3, 0, 0, 0, .null)) (k : am_X d m (pc + 3) ls (.int (iI n) :: st) h Q) (hv : (Int16.ofInt n).toInt32 = iI n := by decide) : am_X d m pc ls st h Q := am_X_step (ls' := ls) (st' := .int (iI n) :: st) hf rfl rfl (by rw [← hv]; rfl) k
theorem ax_lconst {n : Fin 2} (hf : am_tab m pc = some (.lconst n, 1, 0, 0, 0, .null)) (k : am_X d m (pc + 1) ls (.long (Int64.ofNat (n : Nat)) :: st) h Q) : am_X d m pc ls st h Q := am_X_step hf rfl rfl rfl k
theorem ax_null (hf : am_tab m pc = some (.aconst_null, 1, 0, 0, 0, .null)) (k : am_X d m (pc + 1) ls (.null :: st) h Q) : am_X d m pc ls st h Q := am_X_step hf rfl rfl rfl k
theorem ax_ldc {i w : Nat} {x : Int32} (hf : am_tab m pc = some (.ldc i, 2, 0, 0, w, .int x)) (k : am_X d m (pc + 2) ls (.int x :: st) h Q) : am_X d m pc ls st h Q := am_X_step hf rfl rfl rfl k
theorem ax_ldc2_w {i w : Nat} {x : Int64} (hf : am_tab m pc = some (.ldc2_w i, 3, 0, 0, w, .long x)) (k : am_X d m (pc + 3) ls (.long x :: st) h Q) : am_X d m pc ls st h Q := am_X_step hf rfl rfl rfl k
theorem ax_iload {i : Nat} {x : Int32} (hf : am_tab m pc = some (.iload i, 2, 0, 0, 0, .null)) (hv : ls[(i : Nat)]? = some (.int x)) (k : am_X d m (pc + 2) ls (.int x :: st) h Q) : am_X d m pc ls st h Q := am_X_step (st' := .int x :: st) hf rfl rfl (by dsimp only [am_pst, am_ldi]; rw [hv]; rfl) k
theorem ax_iload_n {i : Fin 4} {x : Int32} (hf : am_tab m pc = some (.iload_n i, 1, 0, 0, 0, .null)) (hv : ls[(i : Nat)]? = some (.int x)) (k : am_X d m (pc + 1) ls (.int x :: st) h Q) : am_X d m pc ls st h Q := am_X_step (st' := .int x :: st) hf rfl rfl (by dsimp only [am_pst, am_ldi]; rw [hv]; rfl) k
theorem ax_lload {i : Nat} {x : Int64} (hf : am_tab m pc = some (.lload i, 2, 0, 0, 0, .null)) (hv : ls[(i : Nat)]? = some (.long x)) (k : am_X d m (pc + 2) ls (.long x :: st) h Q) : am_X d m pc ls st h Q := am_X_step (st' := .long x :: st) hf rfl rfl (by dsimp only [am_pst, am_ldl]; rw [hv]; rfl) k
theorem ax_lload_n {i : Fin 4} {x : Int64} (hf : am_tab m pc = some (.lload_n i, 1, 0, 0, 0, .null)) (hv : ls[(i : Nat)]? = some (.long x)) (k : am_X d m (pc + 1) ls (.long x :: st) h Q) : am_X d m pc ls st h Q := am_X_step (st' := .long x :: st) hf rfl rfl (by dsimp only [am_pst, am_ldl]; rw [hv]; rfl) k
theorem ax_aload {i : Nat} {x : Nat} (hf : am_tab m pc = some (.aload i, 2, 0, 0, 0, .null)) (hv : ls[(i : Nat)]? = some (.ref x)) (k : am_X d m (pc + 2) ls (.ref x :: st) h Q) : am_X d m pc ls st h Q := am_X_step (st' := .ref x :: st) hf rfl rfl (by dsimp only [am_pst, am_lda]; rw [hv]; rfl) k
theorem ax_aload_n {i : Fin 4} {x : Nat} (hf : am_tab m pc = some (.aload_n i, 1, 0, 0, 0, .null)) (hv : ls[(i : Nat)]? = some (.ref x)) (k : am_X d m (pc + 1) ls (.ref x :: st) h Q) : am_X d m pc ls st h Q := am_X_step (st' := .ref x :: st) hf rfl rfl (by dsimp only [am_pst, am_lda]; rw [hv]; rfl) k
theorem ax_aloadN {i : Nat} (hf : am_tab m pc = some (.aload i, 2, 0, 0, 0, .null)) (hv : ls[(i : Nat)]? = some .null) (k : am_X d m (pc + 2) ls (.null :: st) h Q) : am_X d m pc ls st h Q := am_X_step (st' := .null :: st) hf rfl rfl (by dsimp only [am_pst, am_lda]; rw [hv]; rfl) k
theorem ax_aloadS {i : Nat} (hf : am_tab m pc = some (.aload i, 2, 0, 0, 0, .null)) (hv : ls[(i : Nat)]? = some (.retAddr 0)) (k : am_X d m (pc + 2) ls (.retAddr 0 :: st) h Q) : am_X d m pc ls st h Q := am_X_step (st' := .retAddr 0 :: st) hf rfl rfl (by dsimp only [am_pst, am_lda]; rw [hv]; rfl) k
theorem ax_aload_nN {i : Fin 4} (hf : am_tab m pc = some (.aload_n i, 1, 0, 0, 0, .null)) (hv : ls[(i : Nat)]? = some .null) (k : am_X d m (pc + 1) ls (.null :: st) h Q) : am_X d m pc ls st h Q := am_X_step (st' := .null :: st) hf rfl rfl (by dsimp only [am_pst, am_lda]; rw [hv]; rfl) k
theorem ax_aload_nS {i : Fin 4} (hf : am_tab m pc = some (.aload_n i, 1, 0, 0, 0, .null)) (hv : ls[(i : Nat)]? = some (.retAddr 0)) (k : am_X d m (pc + 1) ls (.retAddr 0 :: st) h Q) : am_X d m pc ls st h Q := am_X_step (st' := .retAddr 0 :: st) hf rfl rfl (by dsimp only [am_pst, am_lda]; rw [hv]; rfl) k
theorem ax_istore {i : Nat} {x : Int32} {ls' : List Value} (hf : am_tab m pc = some (.istore i, 2, 0, 0, 0, .null)) (hn : (i : Nat) < am_mx m) (hs : am_s1 ls i (.int x) = ls') (k : am_X d m (pc + 2) ls' st h Q) : am_X d m pc ls (.int x :: st) h Q := by
  subst hs
  exact am_X_step hf rfl rfl (by dsimp only [am_pst, am_sti]; rw [if_pos hn]; rfl) k
theorem ax_istore_n {i : Fin 4} {x : Int32} {ls' : List Value} (hf : am_tab m pc = some (.istore_n i, 1, 0, 0, 0, .null)) (hn : (i : Nat) < am_mx m) (hs : am_s1 ls i (.int x) = ls') (k : am_X d m (pc + 1) ls' st h Q) : am_X d m pc ls (.int x :: st) h Q := by
  subst hs
  exact am_X_step hf rfl rfl (by dsimp only [am_pst, am_sti]; rw [if_pos hn]; rfl) k
theorem ax_lstore {i : Nat} {x : Int64} {ls' : List Value} (hf : am_tab m pc = some (.lstore i, 2, 0, 0, 0, .null)) (hn : (i : Nat) + 1 < am_mx m) (hs : am_s2 ls i (.long x) = ls') (k : am_X d m (pc + 2) ls' st h Q) : am_X d m pc ls (.long x :: st) h Q := by
  subst hs
  exact am_X_step hf rfl rfl (by dsimp only [am_pst, am_stl]; rw [if_pos hn]; rfl) k
theorem ax_lstore_n {i : Fin 4} {x : Int64} {ls' : List Value} (hf : am_tab m pc = some (.lstore_n i, 1, 0, 0, 0, .null)) (hn : (i : Nat) + 1 < am_mx m) (hs : am_s2 ls i (.long x) = ls') (k : am_X d m (pc + 1) ls' st h Q) : am_X d m pc ls (.long x :: st) h Q := by
  subst hs
  exact am_X_step hf rfl rfl (by dsimp only [am_pst, am_stl]; rw [if_pos hn]; rfl) k
theorem ax_astore {i : Nat} {x : Nat} {ls' : List Value} (hf : am_tab m pc = some (.astore i, 2, 0, 0, 0, .null)) (hn : (i : Nat) < am_mx m) (hs : am_s1 ls i (.ref x) = ls') (k : am_X d m (pc + 2) ls' st h Q) : am_X d m pc ls (.ref x :: st) h Q := by
  subst hs
  exact am_X_step hf rfl rfl (by dsimp only [am_pst, am_sta]; rw [if_pos hn]; rfl) k
theorem ax_astore_n {i : Fin 4} {x : Nat} {ls' : List Value} (hf : am_tab m pc = some (.astore_n i, 1, 0, 0, 0, .null)) (hn : (i : Nat) < am_mx m) (hs : am_s1 ls i (.ref x) = ls') (k : am_X d m (pc + 1) ls' st h Q) : am_X d m pc ls (.ref x :: st) h Q := by
  subst hs
  exact am_X_step hf rfl rfl (by dsimp only [am_pst, am_sta]; rw [if_pos hn]; rfl) k
theorem ax_astoreN {i : Nat} {ls' : List Value} (hf : am_tab m pc = some (.astore i, 2, 0, 0, 0, .null)) (hn : (i : Nat) < am_mx m) (hs : am_s1 ls i .null = ls') (k : am_X d m (pc + 2) ls' st h Q) : am_X d m pc ls (.null :: st) h Q := by
  subst hs
  exact am_X_step hf rfl rfl (by dsimp only [am_pst, am_sta]; rw [if_pos hn]; rfl) k
theorem ax_astore_nN {i : Fin 4} {ls' : List Value} (hf : am_tab m pc = some (.astore_n i, 1, 0, 0, 0, .null)) (hn : (i : Nat) < am_mx m) (hs : am_s1 ls i .null = ls') (k : am_X d m (pc + 1) ls' st h Q) : am_X d m pc ls (.null :: st) h Q := by
  subst hs
  exact am_X_step hf rfl rfl (by dsimp only [am_pst, am_sta]; rw [if_pos hn]; rfl) k
theorem ax_iinc {i : Nat} {n z : Int} {ls' : List Value} (hf : am_tab m pc = some (.iinc i n, 3, 0, 0, 0, .null)) (hv : ls[i]? = some (.int (iI z))) (hn : i < am_mx m) (hs : am_s1 ls i (.int (iI (z + n))) = ls') (k : am_X d m (pc + 3) ls' st h Q) : am_X d m pc ls st h Q := by
  subst hs
  refine am_X_step hf rfl rfl ?_ k
  dsimp only [am_pst]
  rw [hv]
  dsimp only
  rw [if_pos hn, show iI z + Int32.ofInt n = iI (z + n) from iI_add z n]
theorem ax_iadd {x y : Int} (hf : am_tab m pc = some (.iadd, 1, 0, 0, 0, .null)) (k : am_X d m (pc + 1) ls (.int (iI (x + y)) :: st) h Q) : am_X d m pc ls (.int (iI y) :: .int (iI x) :: st) h Q := am_X_step (st' := .int (iI (x + y)) :: st) hf rfl rfl (by rw [← iI_add]; rfl) k
theorem ax_isub {x y : Int} (hf : am_tab m pc = some (.isub, 1, 0, 0, 0, .null)) (k : am_X d m (pc + 1) ls (.int (iI (x - y)) :: st) h Q) : am_X d m pc ls (.int (iI y) :: .int (iI x) :: st) h Q := am_X_step (st' := .int (iI (x - y)) :: st) hf rfl rfl (by rw [← iI_sub]; rfl) k
theorem ax_imul {x y : Int} (hf : am_tab m pc = some (.imul, 1, 0, 0, 0, .null)) (k : am_X d m (pc + 1) ls (.int (iI (x * y)) :: st) h Q) : am_X d m pc ls (.int (iI y) :: .int (iI x) :: st) h Q := am_X_step (st' := .int (iI (x * y)) :: st) hf rfl rfl (by rw [← iI_mul]; rfl) k
theorem ax_ineg {x : Int} (hf : am_tab m pc = some (.ineg, 1, 0, 0, 0, .null)) (k : am_X d m (pc + 1) ls (.int (iI (-x)) :: st) h Q) : am_X d m pc ls (.int (iI x) :: st) h Q := am_X_step (st' := .int (iI (-x)) :: st) hf rfl rfl (by rw [← iI_neg]; rfl) k
theorem ax_idiv {x y : Int} (hf : am_tab m pc = some (.idiv, 1, 0, 0, 0, .null)) (h1 : 0 ≤ x) (h2 : x < 2147483648) (h3 : 0 < y) (h4 : y < 2147483648) (k : am_X d m (pc + 1) ls (.int (iI (x / y)) :: st) h Q) : am_X d m pc ls (.int (iI y) :: .int (iI x) :: st) h Q := by
  have hy : ¬ iI y = 0 := fun q => by
    have e1 := (iI_eq (a := y) (b := 0) ⟨by omega, h4⟩ ⟨by omega, by omega⟩).mp q
    omega
  exact am_X_step (st' := .int (iI (x / y)) :: st) hf rfl rfl (by dsimp only [am_pst, am_iiz]; rw [if_neg hy, ← iI_div h1 h2 h3 h4]; rfl) k
theorem ax_irem {x y : Int} (hf : am_tab m pc = some (.irem, 1, 0, 0, 0, .null)) (h1 : 0 ≤ x) (h2 : x < 2147483648) (h3 : 0 < y) (h4 : y < 2147483648) (k : am_X d m (pc + 1) ls (.int (iI (x % y)) :: st) h Q) : am_X d m pc ls (.int (iI y) :: .int (iI x) :: st) h Q := by
  have hy : ¬ iI y = 0 := fun q => by
    have e1 := (iI_eq (a := y) (b := 0) ⟨by omega, h4⟩ ⟨by omega, by omega⟩).mp q
    omega
  exact am_X_step (st' := .int (iI (x % y)) :: st) hf rfl rfl (by dsimp only [am_pst, am_iiz]; rw [if_neg hy, ← iI_rem h1 h2 h3 h4]; rfl) k
theorem ax_iand {x y : Int32} (hf : am_tab m pc = some (.iand, 1, 0, 0, 0, .null)) (k : am_X d m (pc + 1) ls (.int (x &&& y) :: st) h Q) : am_X d m pc ls (.int y :: .int x :: st) h Q := am_X_step hf rfl rfl rfl k
theorem ax_ishr {x y : Int32} (hf : am_tab m pc = some (.ishr, 1, 0, 0, 0, .null)) (k : am_X d m (pc + 1) ls (.int (x >>> (y &&& 31)) :: st) h Q) : am_X d m pc ls (.int y :: .int x :: st) h Q := am_X_step hf rfl rfl rfl k
theorem ax_ladd {x y : Int64} (hf : am_tab m pc = some (.ladd, 1, 0, 0, 0, .null)) (k : am_X d m (pc + 1) ls (.long (x + y) :: st) h Q) : am_X d m pc ls (.long y :: .long x :: st) h Q := am_X_step hf rfl rfl rfl k
theorem ax_lsub {x y : Int64} (hf : am_tab m pc = some (.lsub, 1, 0, 0, 0, .null)) (k : am_X d m (pc + 1) ls (.long (x - y) :: st) h Q) : am_X d m pc ls (.long y :: .long x :: st) h Q := am_X_step hf rfl rfl rfl k
theorem ax_lmul {x y : Int64} (hf : am_tab m pc = some (.lmul, 1, 0, 0, 0, .null)) (k : am_X d m (pc + 1) ls (.long (x * y) :: st) h Q) : am_X d m pc ls (.long y :: .long x :: st) h Q := am_X_step hf rfl rfl rfl k
theorem ax_land {x y : Int64} (hf : am_tab m pc = some (.land, 1, 0, 0, 0, .null)) (k : am_X d m (pc + 1) ls (.long (x &&& y) :: st) h Q) : am_X d m pc ls (.long y :: .long x :: st) h Q := am_X_step hf rfl rfl rfl k
theorem ax_lor {x y : Int64} (hf : am_tab m pc = some (.lor, 1, 0, 0, 0, .null)) (k : am_X d m (pc + 1) ls (.long (x ||| y) :: st) h Q) : am_X d m pc ls (.long y :: .long x :: st) h Q := am_X_step hf rfl rfl rfl k
theorem ax_lxor {x y : Int64} (hf : am_tab m pc = some (.lxor, 1, 0, 0, 0, .null)) (k : am_X d m (pc + 1) ls (.long (x ^^^ y) :: st) h Q) : am_X d m pc ls (.long y :: .long x :: st) h Q := am_X_step hf rfl rfl rfl k
theorem ax_ldiv {x y : Int64} (hf : am_tab m pc = some (.ldiv, 1, 0, 0, 0, .null)) (hy : ¬ y = 0) (k : am_X d m (pc + 1) ls (.long (x / y) :: st) h Q) : am_X d m pc ls (.long y :: .long x :: st) h Q := am_X_step (st' := .long (x / y) :: st) hf rfl rfl (by dsimp only [am_pst, am_llz]; rw [if_neg hy]; rfl) k
theorem ax_lrem {x y : Int64} (hf : am_tab m pc = some (.lrem, 1, 0, 0, 0, .null)) (hy : ¬ y = 0) (k : am_X d m (pc + 1) ls (.long (x - x / y * y) :: st) h Q) : am_X d m pc ls (.long y :: .long x :: st) h Q := am_X_step (st' := .long (x - x / y * y) :: st) hf rfl rfl (by dsimp only [am_pst, am_llz]; rw [if_neg hy]; rfl) k
theorem ax_lshl {x : Int64} {y : Int32} (hf : am_tab m pc = some (.lshl, 1, 0, 0, 0, .null)) (k : am_X d m (pc + 1) ls (.long (x <<< (y.toInt64 &&& 63)) :: st) h Q) : am_X d m pc ls (.int y :: .long x :: st) h Q := am_X_step hf rfl rfl rfl k
theorem ax_lushr {x : Int64} {y : Int32} (hf : am_tab m pc = some (.lushr, 1, 0, 0, 0, .null)) (k : am_X d m (pc + 1) ls (.long ((x.toUInt64 >>> (y.toInt64.toUInt64 &&& Int64.toUInt64 63)).toInt64) :: st) h Q) : am_X d m pc ls (.int y :: .long x :: st) h Q := am_X_step hf rfl rfl rfl k
theorem ax_lcmp {x y : Int64} (hf : am_tab m pc = some (.lcmp, 1, 0, 0, 0, .null)) (k : am_X d m (pc + 1) ls (.int (lg_cmp x y) :: st) h Q) : am_X d m pc ls (.long y :: .long x :: st) h Q := am_X_step hf rfl rfl rfl k
theorem ax_i2l {x : Int32} (hf : am_tab m pc = some (.i2l, 1, 0, 0, 0, .null)) (k : am_X d m (pc + 1) ls (.long x.toInt64 :: st) h Q) : am_X d m pc ls (.int x :: st) h Q := am_X_step hf rfl rfl rfl k
theorem ax_l2i {x : Int64} (hf : am_tab m pc = some (.l2i, 1, 0, 0, 0, .null)) (k : am_X d m (pc + 1) ls (.int x.toInt32 :: st) h Q) : am_X d m pc ls (.long x :: st) h Q := am_X_step hf rfl rfl rfl k
theorem ax_i2c {x : Int32} (hf : am_tab m pc = some (.i2c, 1, 0, 0, 0, .null)) (k : am_X d m (pc + 1) ls (.int (x.toUInt32 % 65536).toInt32 :: st) h Q) : am_X d m pc ls (.int x :: st) h Q := am_X_step hf rfl rfl rfl k
theorem ax_dup {v : Value} (hf : am_tab m pc = some (.dup, 1, 0, 0, 0, .null)) (hc : v.category = 1) (k : am_X d m (pc + 1) ls (v :: v :: st) h Q) : am_X d m pc ls (v :: st) h Q := am_X_step hf rfl rfl (by dsimp only [am_pst]; rw [if_pos hc]) k
theorem ax_dup2 {v w : Value} (hf : am_tab m pc = some (.dup2, 1, 0, 0, 0, .null)) (hc : v.category = 1) (hc2 : w.category = 1) (k : am_X d m (pc + 1) ls (v :: w :: v :: w :: st) h Q) : am_X d m pc ls (v :: w :: st) h Q := am_X_step hf rfl rfl (by dsimp only [am_pst]; rw [if_pos ⟨hc, hc2⟩]) k
theorem ax_pop {v : Value} (hf : am_tab m pc = some (.pop, 1, 0, 0, 0, .null)) (hc : v.category = 1) (k : am_X d m (pc + 1) ls st h Q) : am_X d m pc ls (v :: st) h Q := am_X_step hf rfl rfl (by dsimp only [am_pst]; rw [if_pos hc]) k
theorem am_jmp_to {off : Int} {tgt : Nat} (ht : (pc : Int) + off = (tgt : Int)) : am_jmp pc off ls st h = some (tgt, ls, st, h) := by
  unfold am_jmp
  rw [if_pos (by omega), ht]; rfl
theorem am_br_to {b : Bool} {nx : Nat} {off : Int} {tgt : Nat} (ht : (pc : Int) + off = (tgt : Int)) : am_br b pc nx off ls st h = some (if b = true then tgt else nx, ls, st, h) := by
  unfold am_br
  rw [if_pos (by omega), ht]; rfl
theorem ax_goto {off : Int} {tgt : Nat} (hf : am_tab m pc = some (.goto off, 3, tgt, 0, 0, .null)) (ht : (pc : Int) + off = (tgt : Int)) (k : am_X d m tgt ls st h Q) : am_X d m pc ls st h Q := am_X_step hf rfl rfl (am_jmp_to ht) k
theorem ax_icmp_eq {x y : Int} {off : Int} {tgt : Nat} (hf : am_tab m pc = some (.if_icmp .eq off, 3, tgt, 0, 0, .null)) (ht : (pc : Int) + off = (tgt : Int)) (hx : inI x) (hy : inI y) (kt : x = y → am_X d m tgt ls st h Q) (kf : ¬ (x = y) → am_X d m (pc + 3) ls st h Q) : am_X d m pc ls (.int (iI y) :: .int (iI x) :: st) h Q := by
  have key : am_cc .eq (iI x) (iI y) = true ↔ x = y := am_cc_eq.trans (iI_eq hx hy)
  by_cases q : x = y
  · exact am_X_step hf rfl rfl ((am_br_to ht).trans (by rw [if_pos (key.mpr q)])) (kt q)
  · exact am_X_step hf rfl rfl ((am_br_to ht).trans (by rw [if_neg (fun z => q (key.mp z))])) (kf q)
theorem ax_if_eq {x : Int} {off : Int} {tgt : Nat} (hf : am_tab m pc = some (.ifCond .eq off, 3, tgt, 0, 0, .null)) (ht : (pc : Int) + off = (tgt : Int)) (hx : inI x) (kt : x = 0 → am_X d m tgt ls st h Q) (kf : ¬ (x = 0) → am_X d m (pc + 3) ls st h Q) : am_X d m pc ls (.int (iI x) :: st) h Q := by
  have hy : inI 0 := ⟨by decide, by decide⟩
  have key : am_cc .eq (iI x) (iI 0) = true ↔ x = 0 := am_cc_eq.trans (iI_eq hx hy)
  by_cases q : x = 0
  · exact am_X_step hf rfl rfl ((am_br_to (b := am_cc .eq (iI x) (iI 0)) ht).trans (by rw [if_pos (key.mpr q)])) (kt q)
  · exact am_X_step hf rfl rfl ((am_br_to (b := am_cc .eq (iI x) (iI 0)) ht).trans (by rw [if_neg (fun z => q (key.mp z))])) (kf q)
theorem ax_icmp_ne {x y : Int} {off : Int} {tgt : Nat} (hf : am_tab m pc = some (.if_icmp .ne off, 3, tgt, 0, 0, .null)) (ht : (pc : Int) + off = (tgt : Int)) (hx : inI x) (hy : inI y) (kt : ¬ x = y → am_X d m tgt ls st h Q) (kf : ¬ (¬ x = y) → am_X d m (pc + 3) ls st h Q) : am_X d m pc ls (.int (iI y) :: .int (iI x) :: st) h Q := by
  have key : am_cc .ne (iI x) (iI y) = true ↔ ¬ x = y := am_cc_ne.trans (not_congr (iI_eq hx hy))
  by_cases q : ¬ x = y
  · exact am_X_step hf rfl rfl ((am_br_to ht).trans (by rw [if_pos (key.mpr q)])) (kt q)
  · exact am_X_step hf rfl rfl ((am_br_to ht).trans (by rw [if_neg (fun z => q (key.mp z))])) (kf q)
theorem ax_if_ne {x : Int} {off : Int} {tgt : Nat} (hf : am_tab m pc = some (.ifCond .ne off, 3, tgt, 0, 0, .null)) (ht : (pc : Int) + off = (tgt : Int)) (hx : inI x) (kt : ¬ x = 0 → am_X d m tgt ls st h Q) (kf : ¬ (¬ x = 0) → am_X d m (pc + 3) ls st h Q) : am_X d m pc ls (.int (iI x) :: st) h Q := by
  have hy : inI 0 := ⟨by decide, by decide⟩
  have key : am_cc .ne (iI x) (iI 0) = true ↔ ¬ x = 0 := am_cc_ne.trans (not_congr (iI_eq hx hy))
  by_cases q : ¬ x = 0
  · exact am_X_step hf rfl rfl ((am_br_to (b := am_cc .ne (iI x) (iI 0)) ht).trans (by rw [if_pos (key.mpr q)])) (kt q)
  · exact am_X_step hf rfl rfl ((am_br_to (b := am_cc .ne (iI x) (iI 0)) ht).trans (by rw [if_neg (fun z => q (key.mp z))])) (kf q)
theorem ax_icmp_lt {x y : Int} {off : Int} {tgt : Nat} (hf : am_tab m pc = some (.if_icmp .lt off, 3, tgt, 0, 0, .null)) (ht : (pc : Int) + off = (tgt : Int)) (hx : inI x) (hy : inI y) (kt : x < y → am_X d m tgt ls st h Q) (kf : ¬ (x < y) → am_X d m (pc + 3) ls st h Q) : am_X d m pc ls (.int (iI y) :: .int (iI x) :: st) h Q := by
  have key : am_cc .lt (iI x) (iI y) = true ↔ x < y := am_cc_lt.trans (iI_lt hx hy)
  by_cases q : x < y
  · exact am_X_step hf rfl rfl ((am_br_to ht).trans (by rw [if_pos (key.mpr q)])) (kt q)
  · exact am_X_step hf rfl rfl ((am_br_to ht).trans (by rw [if_neg (fun z => q (key.mp z))])) (kf q)
theorem ax_if_lt {x : Int} {off : Int} {tgt : Nat} (hf : am_tab m pc = some (.ifCond .lt off, 3, tgt, 0, 0, .null)) (ht : (pc : Int) + off = (tgt : Int)) (hx : inI x) (kt : x < 0 → am_X d m tgt ls st h Q) (kf : ¬ (x < 0) → am_X d m (pc + 3) ls st h Q) : am_X d m pc ls (.int (iI x) :: st) h Q := by
  have hy : inI 0 := ⟨by decide, by decide⟩
  have key : am_cc .lt (iI x) (iI 0) = true ↔ x < 0 := am_cc_lt.trans (iI_lt hx hy)
  by_cases q : x < 0
  · exact am_X_step hf rfl rfl ((am_br_to (b := am_cc .lt (iI x) (iI 0)) ht).trans (by rw [if_pos (key.mpr q)])) (kt q)
  · exact am_X_step hf rfl rfl ((am_br_to (b := am_cc .lt (iI x) (iI 0)) ht).trans (by rw [if_neg (fun z => q (key.mp z))])) (kf q)
theorem ax_icmp_ge {x y : Int} {off : Int} {tgt : Nat} (hf : am_tab m pc = some (.if_icmp .ge off, 3, tgt, 0, 0, .null)) (ht : (pc : Int) + off = (tgt : Int)) (hx : inI x) (hy : inI y) (kt : y ≤ x → am_X d m tgt ls st h Q) (kf : ¬ (y ≤ x) → am_X d m (pc + 3) ls st h Q) : am_X d m pc ls (.int (iI y) :: .int (iI x) :: st) h Q := by
  have key : am_cc .ge (iI x) (iI y) = true ↔ y ≤ x := am_cc_ge.trans (iI_le hy hx)
  by_cases q : y ≤ x
  · exact am_X_step hf rfl rfl ((am_br_to ht).trans (by rw [if_pos (key.mpr q)])) (kt q)
  · exact am_X_step hf rfl rfl ((am_br_to ht).trans (by rw [if_neg (fun z => q (key.mp z))])) (kf q)
theorem ax_if_ge {x : Int} {off : Int} {tgt : Nat} (hf : am_tab m pc = some (.ifCond .ge off, 3, tgt, 0, 0, .null)) (ht : (pc : Int) + off = (tgt : Int)) (hx : inI x) (kt : 0 ≤ x → am_X d m tgt ls st h Q) (kf : ¬ (0 ≤ x) → am_X d m (pc + 3) ls st h Q) : am_X d m pc ls (.int (iI x) :: st) h Q := by
  have hy : inI 0 := ⟨by decide, by decide⟩
  have key : am_cc .ge (iI x) (iI 0) = true ↔ 0 ≤ x := am_cc_ge.trans (iI_le hy hx)
  by_cases q : 0 ≤ x
  · exact am_X_step hf rfl rfl ((am_br_to (b := am_cc .ge (iI x) (iI 0)) ht).trans (by rw [if_pos (key.mpr q)])) (kt q)
  · exact am_X_step hf rfl rfl ((am_br_to (b := am_cc .ge (iI x) (iI 0)) ht).trans (by rw [if_neg (fun z => q (key.mp z))])) (kf q)
theorem ax_icmp_gt {x y : Int} {off : Int} {tgt : Nat} (hf : am_tab m pc = some (.if_icmp .gt off, 3, tgt, 0, 0, .null)) (ht : (pc : Int) + off = (tgt : Int)) (hx : inI x) (hy : inI y) (kt : y < x → am_X d m tgt ls st h Q) (kf : ¬ (y < x) → am_X d m (pc + 3) ls st h Q) : am_X d m pc ls (.int (iI y) :: .int (iI x) :: st) h Q := by
  have key : am_cc .gt (iI x) (iI y) = true ↔ y < x := am_cc_gt.trans (iI_lt hy hx)
  by_cases q : y < x
  · exact am_X_step hf rfl rfl ((am_br_to ht).trans (by rw [if_pos (key.mpr q)])) (kt q)
  · exact am_X_step hf rfl rfl ((am_br_to ht).trans (by rw [if_neg (fun z => q (key.mp z))])) (kf q)
theorem ax_if_gt {x : Int} {off : Int} {tgt : Nat} (hf : am_tab m pc = some (.ifCond .gt off, 3, tgt, 0, 0, .null)) (ht : (pc : Int) + off = (tgt : Int)) (hx : inI x) (kt : 0 < x → am_X d m tgt ls st h Q) (kf : ¬ (0 < x) → am_X d m (pc + 3) ls st h Q) : am_X d m pc ls (.int (iI x) :: st) h Q := by
  have hy : inI 0 := ⟨by decide, by decide⟩
  have key : am_cc .gt (iI x) (iI 0) = true ↔ 0 < x := am_cc_gt.trans (iI_lt hy hx)
  by_cases q : 0 < x
  · exact am_X_step hf rfl rfl ((am_br_to (b := am_cc .gt (iI x) (iI 0)) ht).trans (by rw [if_pos (key.mpr q)])) (kt q)
  · exact am_X_step hf rfl rfl ((am_br_to (b := am_cc .gt (iI x) (iI 0)) ht).trans (by rw [if_neg (fun z => q (key.mp z))])) (kf q)
theorem ax_icmp_le {x y : Int} {off : Int} {tgt : Nat} (hf : am_tab m pc = some (.if_icmp .le off, 3, tgt, 0, 0, .null)) (ht : (pc : Int) + off = (tgt : Int)) (hx : inI x) (hy : inI y) (kt : x ≤ y → am_X d m tgt ls st h Q) (kf : ¬ (x ≤ y) → am_X d m (pc + 3) ls st h Q) : am_X d m pc ls (.int (iI y) :: .int (iI x) :: st) h Q := by
  have key : am_cc .le (iI x) (iI y) = true ↔ x ≤ y := am_cc_le.trans (iI_le hx hy)
  by_cases q : x ≤ y
  · exact am_X_step hf rfl rfl ((am_br_to ht).trans (by rw [if_pos (key.mpr q)])) (kt q)
  · exact am_X_step hf rfl rfl ((am_br_to ht).trans (by rw [if_neg (fun z => q (key.mp z))])) (kf q)
theorem ax_if_le {x : Int} {off : Int} {tgt : Nat} (hf : am_tab m pc = some (.ifCond .le off, 3, tgt, 0, 0, .null)) (ht : (pc : Int) + off = (tgt : Int)) (hx : inI x) (kt : x ≤ 0 → am_X d m tgt ls st h Q) (kf : ¬ (x ≤ 0) → am_X d m (pc + 3) ls st h Q) : am_X d m pc ls (.int (iI x) :: st) h Q := by
  have hy : inI 0 := ⟨by decide, by decide⟩
  have key : am_cc .le (iI x) (iI 0) = true ↔ x ≤ 0 := am_cc_le.trans (iI_le hx hy)
  by_cases q : x ≤ 0
  · exact am_X_step hf rfl rfl ((am_br_to (b := am_cc .le (iI x) (iI 0)) ht).trans (by rw [if_pos (key.mpr q)])) (kt q)
  · exact am_X_step hf rfl rfl ((am_br_to (b := am_cc .le (iI x) (iI 0)) ht).trans (by rw [if_neg (fun z => q (key.mp z))])) (kf q)
theorem ax_ifnull {x : Nat} {off : Int} {tgt : Nat} (hf : am_tab m pc = some (.ifnull off, 3, tgt, 0, 0, .null)) (k : am_X d m (pc + 3) ls st h Q) : am_X d m pc ls (.ref x :: st) h Q := am_X_step hf rfl rfl rfl k
theorem ax_ifnullN {off : Int} {tgt : Nat} (hf : am_tab m pc = some (.ifnull off, 3, tgt, 0, 0, .null)) (ht : (pc : Int) + off = (tgt : Int)) (k : am_X d m tgt ls st h Q) : am_X d m pc ls (.null :: st) h Q := am_X_step hf rfl rfl (am_jmp_to ht) k
theorem ax_tswI {x dflt lo hi off : Int} {offs : Array Int} {len tgt : Nat} (hf : am_tab m pc = some (.tableswitch dflt lo hi offs, len, 0, 0, 0, .null)) (hx : inI x) (h1 : lo ≤ x) (h2 : x ≤ hi) (ho : offs[(x - lo).toNat]? = some off) (ht : (pc : Int) + off = (tgt : Int)) (k : am_X d m tgt ls st h Q) : am_X d m pc ls (.int (iI x) :: st) h Q := by
  refine am_X_step hf rfl rfl ?_ k
  dsimp only [am_pst]
  rw [iI_toInt hx, if_neg (by omega), ho]
  exact am_jmp_to ht
theorem ax_tswO {x dflt lo hi : Int} {offs : Array Int} {len tgt : Nat} (hf : am_tab m pc = some (.tableswitch dflt lo hi offs, len, 0, 0, 0, .null)) (hx : inI x) (h1 : x < lo ∨ hi < x) (ht : (pc : Int) + dflt = (tgt : Int)) (k : am_X d m tgt ls st h Q) : am_X d m pc ls (.int (iI x) :: st) h Q := by
  refine am_X_step hf rfl rfl ?_ k
  dsimp only [am_pst]
  rw [iI_toInt hx, if_pos h1]
  exact am_jmp_to ht
theorem ax_lsw {x dflt off : Int} {ps : Array (Int × Int)} {len tgt : Nat} (hf : am_tab m pc = some (.lookupswitch dflt ps, len, 0, 0, 0, .null)) (hx : inI x) (hp : (ps.toList.zip (ps.toList.drop 1)).all (fun (a, next) => a.1 < next.1) = true) (ho : Op.lookupswitch.offset ps.toList dflt x = off) (ht : (pc : Int) + off = (tgt : Int)) (k : am_X d m tgt ls st h Q) : am_X d m pc ls (.int (iI x) :: st) h Q := by
  refine am_X_step hf rfl rfl ?_ k
  dsimp only [am_pst]
  rw [if_pos hp, iI_toInt hx, ho]
  exact am_jmp_to ht
theorem ax_getf {i a b w q : Nat} {v0 v : Value} {fs : List Value} (hf : am_tab m pc = some (.getfield i, 3, a, b, w, v0)) (ho : h.1[q]? = some (.inr (a, fs))) (hv : fs[b]? = some v) (k : am_X d m (pc + 3) ls (v :: st) h Q) : am_X d m pc ls (.ref q :: st) h Q := by
  refine am_X_step (st' := v :: st) hf rfl rfl ?_ k
  dsimp only [am_pst, am_get]
  rw [ho]
  dsimp only
  rw [if_pos rfl, hv]; rfl
theorem ax_putf {i a b w q : Nat} {v0 v : Value} {fs fs' : List Value} (hf : am_tab m pc = some (.putfield i, 3, a, b, w, v0)) (ho : h.1[q]? = some (.inr (a, fs))) (hl : b < fs.length) (hn : narrow (am_ft a b) v = v) (hfit : fits (am_ft a b) v = true) (hs : fs.set b v = fs') (k : am_X d m (pc + 3) ls st (am_w h q (.inr (a, fs'))) Q) : am_X d m pc ls (v :: .ref q :: st) h Q := by
  subst hs
  refine am_X_step (st' := st) hf rfl rfl ?_ k
  dsimp only [am_pst, am_put]
  rw [ho]
  dsimp only
  rw [if_pos ⟨rfl, hl, hn, hfit⟩]; rfl
theorem am_ixI {z : Int} {n : Nat} (h1 : 0 ≤ z) (h2 : z < n) (hn : n ≤ 60000) : am_ix (iI z) n = true ∧ (iI z).toNatClampNeg = z.toNat := by
  have hz : inI z := ⟨by omega, by omega⟩
  refine ⟨?_, iI_cl hz⟩
  unfold am_ix
  rw [iI_toInt hz]
  exact decide_eq_true ⟨h1, h2⟩
theorem ax_iald {q n : Nat} {f : Nat → Int32} {z : Int} (hf : am_tab m pc = some (.iaload, 1, 0, 0, 0, .null)) (hm : ¬ m = 1) (ho : h.1[q]? = some (.inl (0, n, .inl f))) (h1 : 0 ≤ z) (h2 : z < n) (hn : n ≤ 60000) (k : am_X d m (pc + 1) ls (.int (f z.toNat) :: st) h Q) : am_X d m pc ls (.int (iI z) :: .ref q :: st) h Q := by
  obtain ⟨e1, e2⟩ := am_ixI h1 h2 hn
  refine am_X_step (st' := .int (f z.toNat) :: st) hf rfl rfl ?_ k
  dsimp only [am_pst, am_ald]
  rw [if_neg hm]; rw [ho]
  dsimp only
  rw [if_pos ⟨rfl, e1⟩, e2]; rfl
theorem ax_bald {q n : Nat} {f : Nat → Int32} {z : Int} (hf : am_tab m pc = some (.baload, 1, 0, 0, 0, .null)) (ho : h.1[q]? = some (.inl (2, n, .inl f))) (h1 : 0 ≤ z) (h2 : z < n) (hn : n ≤ 60000) (k : am_X d m (pc + 1) ls (.int (f z.toNat) :: st) h Q) : am_X d m pc ls (.int (iI z) :: .ref q :: st) h Q := by
  obtain ⟨e1, e2⟩ := am_ixI h1 h2 hn
  refine am_X_step (st' := .int (f z.toNat) :: st) hf rfl rfl ?_ k
  dsimp only [am_pst, am_ald]
  rw [ho]
  dsimp only
  rw [if_pos ⟨rfl, e1⟩, e2]; rfl
theorem ax_cald {q n : Nat} {f : Nat → Int32} {z : Int} (hf : am_tab m pc = some (.caload, 1, 0, 0, 0, .null)) (ho : h.1[q]? = some (.inl (1, n, .inl f))) (h1 : 0 ≤ z) (h2 : z < n) (hn : n ≤ 60000) (k : am_X d m (pc + 1) ls (.int (f z.toNat) :: st) h Q) : am_X d m pc ls (.int (iI z) :: .ref q :: st) h Q := by
  obtain ⟨e1, e2⟩ := am_ixI h1 h2 hn
  refine am_X_step (st' := .int (f z.toNat) :: st) hf rfl rfl ?_ k
  dsimp only [am_pst, am_ald]
  rw [ho]
  dsimp only
  rw [if_pos ⟨rfl, e1⟩, e2]; rfl
theorem ax_lald {q n : Nat} {f : Nat → Int64} {z : Int} (hf : am_tab m pc = some (.laload, 1, 0, 0, 0, .null)) (ho : h.1[q]? = some (.inl (3, n, .inr (.inl f)))) (h1 : 0 ≤ z) (h2 : z < n) (hn : n ≤ 60000) (k : am_X d m (pc + 1) ls (.long (f z.toNat) :: st) h Q) : am_X d m pc ls (.int (iI z) :: .ref q :: st) h Q := by
  obtain ⟨e1, e2⟩ := am_ixI h1 h2 hn
  refine am_X_step (st' := .long (f z.toNat) :: st) hf rfl rfl ?_ k
  dsimp only [am_pst, am_aldl]
  rw [ho]
  dsimp only
  rw [if_pos ⟨rfl, e1⟩, e2]; rfl
theorem ax_aald {q n : Nat} {f : Nat → Option Nat} {z : Int} (hf : am_tab m pc = some (.aaload, 1, 0, 0, 0, .null)) (ho : h.1[q]? = some (.inl (4, n, .inr (.inr (.inr (.inr f)))))) (h1 : 0 ≤ z) (h2 : z < n) (hn : n ≤ 60000) (k : am_X d m (pc + 1) ls (va_rf (f z.toNat) :: st) h Q) : am_X d m pc ls (.int (iI z) :: .ref q :: st) h Q := by
  obtain ⟨e1, e2⟩ := am_ixI h1 h2 hn
  refine am_X_step (st' := va_rf (f z.toNat) :: st) hf rfl rfl ?_ k
  dsimp only [am_pst, am_aldr]
  rw [ho]
  dsimp only
  rw [if_pos ⟨rfl, e1⟩, e2]; rfl
theorem ax_iast {q n : Nat} {f : Nat → Int32} {z : Int} {x : Int32} (hf : am_tab m pc = some (.iastore, 1, 0, 0, 0, .null)) (ho : h.1[q]? = some (.inl (0, n, .inl f))) (h1 : 0 ≤ z) (h2 : z < n) (hn : n ≤ 60000) (k : am_X d m (pc + 1) ls st (am_w h q (.inl (0, n, .inl (upd f z.toNat x)))) Q) : am_X d m pc ls (.int x :: .int (iI z) :: .ref q :: st) h Q := by
  obtain ⟨e1, e2⟩ := am_ixI h1 h2 hn
  refine am_X_step (st' := st) hf rfl rfl ?_ k
  dsimp only [am_pst, am_asi]
  rw [ho]
  dsimp only
  rw [if_pos ⟨rfl, e1⟩, e2]; rfl
theorem ax_bast {q n : Nat} {f : Nat → Int32} {z : Int} {x : Int32} (hf : am_tab m pc = some (.bastore, 1, 0, 0, 0, .null)) (ho : h.1[q]? = some (.inl (2, n, .inl f))) (h1 : 0 ≤ z) (h2 : z < n) (hn : n ≤ 60000) (hx : vp_nar .boolean x = x) (k : am_X d m (pc + 1) ls st (am_w h q (.inl (2, n, .inl (upd f z.toNat x)))) Q) : am_X d m pc ls (.int x :: .int (iI z) :: .ref q :: st) h Q := by
  obtain ⟨e1, e2⟩ := am_ixI h1 h2 hn
  refine am_X_step (st' := st) hf rfl rfl ?_ k
  dsimp only [am_pst, am_ast]
  rw [ho]
  dsimp only
  rw [if_pos ⟨rfl, e1⟩, e2, hx]; rfl
theorem ax_cast {q n : Nat} {f : Nat → Int32} {z : Int} {x : Int32} (hf : am_tab m pc = some (.castore, 1, 0, 0, 0, .null)) (ho : h.1[q]? = some (.inl (1, n, .inl f))) (h1 : 0 ≤ z) (h2 : z < n) (hn : n ≤ 60000) (hx : vp_nar .char x = x) (k : am_X d m (pc + 1) ls st (am_w h q (.inl (1, n, .inl (upd f z.toNat x)))) Q) : am_X d m pc ls (.int x :: .int (iI z) :: .ref q :: st) h Q := by
  obtain ⟨e1, e2⟩ := am_ixI h1 h2 hn
  refine am_X_step (st' := st) hf rfl rfl ?_ k
  dsimp only [am_pst, am_ast]
  rw [ho]
  dsimp only
  rw [if_pos ⟨rfl, e1⟩, e2, hx]; rfl
theorem ax_last {q n : Nat} {f : Nat → Int64} {z : Int} {x : Int64} (hf : am_tab m pc = some (.lastore, 1, 0, 0, 0, .null)) (ho : h.1[q]? = some (.inl (3, n, .inr (.inl f)))) (h1 : 0 ≤ z) (h2 : z < n) (hn : n ≤ 60000) (k : am_X d m (pc + 1) ls st (am_w h q (.inl (3, n, .inr (.inl (vp_updL f z.toNat x))))) Q) : am_X d m pc ls (.long x :: .int (iI z) :: .ref q :: st) h Q := by
  obtain ⟨e1, e2⟩ := am_ixI h1 h2 hn
  refine am_X_step (st' := st) hf rfl rfl ?_ k
  dsimp only [am_pst, am_astl]
  rw [ho]
  dsimp only
  rw [if_pos ⟨rfl, e1⟩, e2]; rfl
theorem ax_aast {q n v : Nat} {f : Nat → Option Nat} {z : Int} {fs : List Value} (hf : am_tab m pc = some (.aastore, 1, 0, 0, 0, .null)) (ho : h.1[q]? = some (.inl (4, n, .inr (.inr (.inr (.inr f)))))) (hv : h.1[v]? = some (.inr (3, fs))) (h1 : 0 ≤ z) (h2 : z < n) (hn : n ≤ 60000) (k : am_X d m (pc + 1) ls st (am_w h q (.inl (4, n, .inr (.inr (.inr (.inr (va_up f z.toNat (some v)))))))) Q) : am_X d m pc ls (.ref v :: .int (iI z) :: .ref q :: st) h Q := by
  obtain ⟨e1, e2⟩ := am_ixI h1 h2 hn
  refine am_X_step (st' := st) hf rfl rfl ?_ k
  dsimp only [am_pst, am_astr]
  rw [ho, hv]
  dsimp only
  rw [if_pos ⟨rfl, rfl, e1⟩, e2]; rfl
theorem ax_sld {z : Int} (hf : am_tab 1 pc = some (.iaload, 1, 0, 0, 0, .null)) (h1 : 0 ≤ z) (h2 : z < h.2.2.1) (hn : h.2.2.1 ≤ 60000) (k : am_X d 1 (pc + 1) ls (.int (h.2.2.2 z.toNat) :: st) h Q) : am_X d 1 pc ls (.int (iI z) :: .retAddr 0 :: st) h Q := by
  obtain ⟨e1, e2⟩ := am_ixI h1 h2 hn
  refine am_X_step (st' := .int (h.2.2.2 z.toNat) :: st) hf rfl rfl ?_ k
  show am_S (pc + 1) ls h (if am_ix (iI z) h.2.2.1 = true then some (.int (h.2.2.2 (iI z).toNatClampNeg) :: st) else none) = _
  rw [if_pos e1, e2]; rfl
theorem ax_slen (hf : am_tab 1 pc = some (.arraylength, 1, 0, 0, 0, .null)) (k : am_X d 1 (pc + 1) ls (.int (iI h.2.2.1) :: st) h Q) : am_X d 1 pc ls (.retAddr 0 :: st) h Q := by
  refine am_X_step (st' := .int (iI h.2.2.1) :: st) hf rfl rfl ?_ k
  show (if (1 : Nat) = 1 then some (pc + 1, ls, Value.int (Int32.ofNat h.2.2.1) :: st, h) else none) = _
  rw [if_pos rfl]; rfl
theorem ax_new {i a b w : Nat} (hf : am_tab m pc = some (.new i, 3, a, b, w, .null)) (k : am_X d m (pc + 3) ls (.ref h.1.length :: st) (am_n h (.inr (a, (am_df[a]?).getD [])) b) Q) : am_X d m pc ls st h Q := am_X_step hf rfl rfl rfl k
theorem ax_newarray {ty : ArrayType} {a w : Nat} {z : Int} (hf : am_tab m pc = some (.newarray ty, 2, a, 0, w, .null)) (h1 : 0 ≤ z) (h2 : z ≤ 60000) (k : am_X d m (pc + 2) ls (.ref h.1.length :: st) (am_n h (.inl (a, am_zero a z.toNat)) z.toNat) Q) : am_X d m pc ls (.int (iI z) :: st) h Q := by
  have hz : inI z := ⟨by omega, by omega⟩
  refine am_X_step (ls' := ls) (st' := .ref h.1.length :: st) hf rfl rfl ?_ k
  dsimp only [am_pst, am_nwa]
  rw [iI_toInt hz, if_pos ⟨h1, h2⟩, iI_cl hz]; rfl
theorem ax_anewarray {i a w : Nat} {z : Int} (hf : am_tab m pc = some (.anewarray i, 3, a, 0, w, .null)) (h1 : 0 ≤ z) (h2 : z ≤ 60000) (k : am_X d m (pc + 3) ls (.ref h.1.length :: st) (am_n h (.inl (a, am_zero a z.toNat)) z.toNat) Q) : am_X d m pc ls (.int (iI z) :: st) h Q := by
  have hz : inI z := ⟨by omega, by omega⟩
  refine am_X_step (ls' := ls) (st' := .ref h.1.length :: st) hf rfl rfl ?_ k
  dsimp only [am_pst, am_nwa]
  rw [iI_toInt hz, if_pos ⟨h1, h2⟩, iI_cl hz]; rfl
theorem ax_objinit {i w x : Nat} (hf : am_tab m pc = some (.invokespecial i, 3, 0, 0, w, .int 6)) (hc : am_cs st ≤ 8) (k : am_X d m (pc + 3) ls st h Q) : am_X d m pc ls (.ref x :: st) h Q := by
  refine am_X_step (st' := st) hf rfl rfl ?_ k
  dsimp only [am_pst]
  rw [if_pos rfl, if_pos hc]
theorem ax_max {i w : Nat} {x y : Int} (hf : am_tab m pc = some (.invokestatic i, 3, 0, 0, w, .int 10)) (hc : am_cs st ≤ 8) (hx : inI x) (hy : inI y) (k : am_X d m (pc + 3) ls (.int (iI (max x y)) :: st) h Q) : am_X d m pc ls (.int (iI y) :: .int (iI x) :: st) h Q := by
  refine am_X_step (st' := .int (iI (max x y)) :: st) hf rfl rfl ?_ k
  dsimp only [am_pst, am_mth]
  rw [if_neg (by decide), if_pos rfl, if_pos hc]
  have e1 : (if iI x < iI y then iI y else iI x) = iI (max x y) := by
    by_cases q : x < y
    · rw [if_pos ((iI_lt hx hy).mpr q)]; congr 1; omega
    · rw [if_neg (fun z => q ((iI_lt hx hy).mp z))]; congr 1; omega
  rw [e1]; rfl
theorem ax_min {i w : Nat} {x y : Int} (hf : am_tab m pc = some (.invokestatic i, 3, 0, 0, w, .int 11)) (hc : am_cs st ≤ 8) (hx : inI x) (hy : inI y) (k : am_X d m (pc + 3) ls (.int (iI (min x y)) :: st) h Q) : am_X d m pc ls (.int (iI y) :: .int (iI x) :: st) h Q := by
  refine am_X_step (st' := .int (iI (min x y)) :: st) hf rfl rfl ?_ k
  dsimp only [am_pst, am_mth]
  rw [if_neg (by decide), if_neg (by decide), if_pos rfl, if_pos hc]
  have e1 : (if iI y < iI x then iI y else iI x) = iI (min x y) := by
    by_cases q : y < x
    · rw [if_pos ((iI_lt hy hx).mpr q)]; congr 1; omega
    · rw [if_neg (fun z => q ((iI_lt hy hx).mp z))]; congr 1; omega
  rw [e1]; rfl
theorem ax_abs {i w : Nat} {x : Int} (hf : am_tab m pc = some (.invokestatic i, 3, 0, 0, w, .int 12)) (hc : am_cs st ≤ 8) (hx : inI x) (k : am_X d m (pc + 3) ls (.int (iI (if 0 ≤ x then x else -x)) :: st) h Q) : am_X d m pc ls (.int (iI x) :: st) h Q := by
  refine am_X_step (st' := .int (iI (if 0 ≤ x then x else -x)) :: st) hf rfl rfl ?_ k
  dsimp only [am_pst, am_mab]
  rw [if_neg (by decide), if_neg (by decide), if_neg (by decide), if_pos rfl, if_pos hc]
  have h00 : inI 0 := ⟨by decide, by decide⟩
  have e1 : (if 0 ≤ iI x then iI x else 0 - iI x) = iI (if 0 ≤ x then x else -x) := by
    show (if iI 0 ≤ iI x then iI x else iI 0 - iI x) = _
    by_cases q : 0 ≤ x
    · rw [if_pos ((iI_le h00 hx).mpr q), if_pos q]
    · rw [if_neg (fun z => q ((iI_le h00 hx).mp z)), if_neg q]
      rw [iI_sub]; congr 1; omega
  rw [e1]; rfl
theorem ax_cpy {i w k0 k1 n0 n1 : Nat} {f g : Nat → Int32} {n : Int} (hf : am_tab m pc = some (.invokestatic i, 3, 0, 0, w, .int 7)) (hc : am_cs st ≤ 8) (ho0 : h.1[k0]? = some (.inl (0, n0, .inl f))) (ho1 : h.1[k1]? = some (.inl (0, n1, .inl g))) (h1 : 0 ≤ n) (h2 : n ≤ n0) (h3 : n ≤ n1) (hn : n0 ≤ 60000) (k : am_X d m (pc + 3) ls st (am_w h k1 (.inl (0, n1, .inl (va_cpy f g 0 0 n.toNat)))) Q) : am_X d m pc ls (.int (iI n) :: .int (iI 0) :: .ref k1 :: .int (iI 0) :: .ref k0 :: st) h Q := by
  have hz : inI n := ⟨by omega, by omega⟩
  have h00 : inI 0 := ⟨by decide, by decide⟩
  have e0 : (iI 0).toNatClampNeg = 0 := rfl
  have e3 : ¬ iI 0 < 0 := by decide
  have e4 : ¬ iI n < 0 := fun q => by have := (iI_lt hz h00).mp q; omega
  refine am_X_step (st' := st) hf rfl rfl ?_ k
  dsimp only [am_pst, am_cpy]
  rw [if_pos rfl, ho0, ho1]
  dsimp only
  rw [e0, iI_cl hz, if_pos ⟨rfl, rfl, e3, e3, e4, by omega, by omega, hc⟩]; rfl
theorem ax_ireturn {x : Int32} {ty : FieldType} (hf : am_tab m pc = some (.ireturn, 1, 0, 0, 0, .null)) (hr : am_rt m = some ty) (hn : narrow ty (.int x) = .int x) (k : Q (.inl (some (.int x))) h) : am_X d m pc ls [.int x] h Q := by
  refine am_X_fin (o := (.inl (some (.int x)), h)) hf ?_ k
  dsimp only [am_fin]
  rw [hr]
  dsimp only
  rw [if_pos hn]
theorem ax_lreturn {x : Int64} (hf : am_tab m pc = some (.lreturn, 1, 0, 0, 0, .null)) (hr : am_rt m = some .long) (k : Q (.inl (some (.long x))) h) : am_X d m pc ls [.long x] h Q := by
  refine am_X_fin (o := (.inl (some (.long x)), h)) hf ?_ k
  dsimp only [am_fin]
  rw [if_pos hr]
theorem ax_areturn {x : Nat} (hf : am_tab m pc = some (.areturn, 1, 0, 0, 0, .null)) (hr : am_rt m = some (.object "FencedRows$Meadow")) (k : Q (.inl (some (.ref x))) h) : am_X d m pc ls [.ref x] h Q := by
  refine am_X_fin (o := (.inl (some (.ref x)), h)) hf ?_ k
  dsimp only [am_fin]
  rw [if_pos hr]
theorem ax_return (hf : am_tab m pc = some (.return_, 1, 0, 0, 0, .null)) (hr : am_rt m = none) (k : Q (.inl none) h) : am_X d m pc ls [] h Q := by
  refine am_X_fin (o := (.inl none, h)) hf ?_ k
  dsimp only [am_fin]
  rw [if_pos hr]
theorem ax_throw {a b w : Nat} {v : Value} {E : String} (hf : am_tab m pc = some (.athrow, 0, a, b, w, v)) (hE : (am_xc[a]?).getD "" = E) (k : Q (.inr E) (am_bump h)) : am_X d m pc ls [] h Q := by
  subst hE
  exact am_X_fin (o := (.inr ((am_xc[a]?).getD ""), am_bump h)) hf (if_pos rfl : (if ([] : List Value) = [] then some ((.inr ((am_xc[a]?).getD "") : am_R), am_bump h) else none) = _) k
/-- a virtual call; what is behind the callee's contract is one answer -/
theorem ax_callv {i y nb w q ci dc : Nat} {fs as' rest : List Value} {Qy : am_R → am_H → Prop} (hf : am_tab m pc = some (.invokevirtual i, 3, y, nb, w, .int 0)) (hl : nb ≤ st.length) (hs : (st.take nb).reverse = .ref q :: as') (hr : st.drop nb = rest) (hc : am_cs rest ≤ 8) (hm : am_cs (.ref q :: as') ≤ am_mx y) (ho : h.1[q]? = some (.inr (ci, fs))) (hcn : (am_q ci).1 = am_cn y) (hci : ci < vwCl.length)
    (hy : am_X dc y 0 (am_ent y (.ref q :: as')) [] h Qy) (hd : dc + 1 ≤ d) (k : ∀ r h', Qy r h' → ∃ rv : Option Value, r = .inl rv ∧ am_X d m (pc + 3) ls (rv.toList ++ rest) h' Q) : am_X d m pc ls st h Q := by
  refine am_X_call hf rfl ?_ rfl hd hy k
  dsimp only [am_cal]
  rw [if_pos (show am_isc (.invokevirtual i, 3, y, nb, w, .int 0) = true from rfl), hs, hr, if_pos]
  refine ⟨hl, hc, hm, fun _ => ?_, fun q => ?_⟩
  · dsimp only [am_rcv]
    rw [ho]
    dsimp only
    rw [hcn, Bool.and_eq_true]
    exact ⟨decide_eq_true rfl, decide_eq_true hci⟩
  · rcases q with q | q <;> cases q
theorem ax_trycall {i y nb w q ci dc : Nat} {fs as' rest : List Value} {Qy : am_R → am_H → Prop} (hf : am_tab m pc = some (.invokevirtual i, 3, y, nb, w, .int 8)) (hl : nb ≤ st.length) (hs : (st.take nb).reverse = .ref q :: as') (hr : st.drop nb = rest) (hc : am_cs rest ≤ 8) (hm : am_cs (.ref q :: as') ≤ am_mx y) (ho : h.1[q]? = some (.inr (ci, fs))) (hcn : (am_q ci).1 = am_cn y) (hci : ci < vwCl.length)
    (hy : am_X dc y 0 (am_ent y (.ref q :: as')) [] h Qy) (hd : dc + 1 ≤ d) (k : ∀ rv h', Qy (.inl rv) h' → am_X d m (pc + 3) ls (rv.toList ++ rest) h' Q)
    (kx : ∀ E h', Qy (.inr E) h' → ∃ t : Nat × Nat, am_han m E = some t ∧ am_X d m t.1 (am_s1 ls t.2 am_u) [] h' Q) : am_X d m pc ls st h Q := by
  refine am_X_try hf rfl ?_ rfl rfl hd hy k kx
  dsimp only [am_cal]
  rw [if_pos (show am_isc (.invokevirtual i, 3, y, nb, w, .int 8) = true from rfl), hs, hr, if_pos]
  refine ⟨hl, hc, hm, fun _ => ?_, fun q => ?_⟩
  · dsimp only [am_rcv]
    rw [ho]
    dsimp only
    rw [hcn, Bool.and_eq_true]
    exact ⟨decide_eq_true rfl, decide_eq_true hci⟩
  · rcases q with q | q <;> cases q
theorem ax_calls {i y nb w kd dc : Nat} {as rest : List Value} {Qy : am_R → am_H → Prop} {v : Value} (hf : am_tab m pc = some (.invokestatic i, 3, y, nb, w, v)) (hv : v = .int 2 ∨ v = .int 3 ∨ v = .int 9) (hl : nb ≤ st.length) (hs : (st.take nb).reverse = as) (hr : st.drop nb = rest) (hc : am_cs rest ≤ 8) (hm : am_cs as ≤ am_mx y)
    (hy : am_X dc y 0 (am_ent y as) [] h Qy) (hd : dc + 1 ≤ d) (k : ∀ r h', Qy r h' → ∃ rv : Option Value, r = .inl rv ∧ am_X d m (pc + 3) ls (rv.toList ++ rest) h' Q) : am_X d m pc ls st h Q := by
  subst hs
  refine am_X_call hf rfl ?_ rfl hd hy k
  dsimp only [am_cal]
  rw [if_pos (show am_isc (.invokestatic i, 3, y, nb, w, v) = true from by rcases hv with rfl | rfl | rfl <;> rfl), hr, if_pos]
  refine ⟨hl, hc, hm, fun q => ?_, fun q => ?_⟩
  · rcases hv with rfl | rfl | rfl <;> rcases q with q | q <;> cases q
  · rcases hv with rfl | rfl | rfl <;> rcases q with q | q <;> cases q
theorem ax_calli {i y nb w q dc : Nat} {as' rest : List Value} {Qy : am_R → am_H → Prop} {v : Value} (hf : am_tab m pc = some (.invokespecial i, 3, y, nb, w, v)) (hv : v = .int 4 ∨ v = .int 5) (hl : nb ≤ st.length) (hs : (st.take nb).reverse = .ref q :: as') (hr : st.drop nb = rest) (hc : am_cs rest ≤ 8) (hm : am_cs (.ref q :: as') ≤ am_mx y)
    (hy : am_X dc y 0 (am_ent y (.ref q :: as')) [] h Qy) (hd : dc + 1 ≤ d) (k : ∀ r h', Qy r h' → ∃ rv : Option Value, r = .inl rv ∧ am_X d m (pc + 3) ls (rv.toList ++ rest) h' Q) : am_X d m pc ls st h Q := by
  refine am_X_call hf rfl ?_ rfl hd hy k
  dsimp only [am_cal]
  rw [if_pos (show am_isc (.invokespecial i, 3, y, nb, w, v) = true from by rcases hv with rfl | rfl <;> rfl), hs, hr, if_pos]
  refine ⟨hl, hc, hm, fun q => ?_, fun q => rfl⟩
  rcases hv with rfl | rfl <;> rcases q with q | q <;> cases q
end AXR
