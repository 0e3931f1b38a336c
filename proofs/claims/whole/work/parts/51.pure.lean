/-! bits -/
def tb (x : Int32) (k : Nat) : Bool := x.toBitVec.getLsbD k
theorem and31 {k : Nat} (h : k < 32) : nI k &&& 31 = nI k := by
  rw [pk_andN (by omega) 5 (m := 31) (by decide)]
  exact congrArg nI (Nat.mod_eq_of_lt h)
theorem smod32 {k : Nat} (h : k < 32) : ((nI k).toBitVec.smod 32).toNat = k := by
  have : ∀ k : Fin 32, ((nI k.1).toBitVec.smod 32).toNat = k.1 := by decide +kernel
  exact this ⟨k, h⟩
theorem shl_bv (a : Int32) {k : Nat} (h : k < 32) : (a <<< (nI k &&& 31)).toBitVec = a.toBitVec <<< k := by
  rw [and31 h]
  show a.toBitVec <<< ((nI k).toBitVec.smod 32).toNat = _
  rw [smod32 h]
theorem shr_bv (a : Int32) {k : Nat} (h : k < 32) : (a >>> (nI k &&& 31)).toBitVec = a.toBitVec.sshiftRight k := by
  rw [and31 h]
  show a.toBitVec.sshiftRight ((nI k).toBitVec.smod 32).toNat = _
  rw [smod32 h]
theorem tb_one {k j : Nat} (hk : k < 32) : tb (1 <<< (nI k &&& 31)) j = (j == k) := by
  unfold tb; rw [shl_bv _ hk]
  have h1 : (1 : Int32).toBitVec = 1#32 := rfl
  rw [h1, BitVec.getLsbD_shiftLeft, BitVec.getLsbD_one]
  by_cases e : j = k
  · subst e; simp [hk]
  · have hb : (j == k) = false := by simp [e]
    rw [hb]
    by_cases z : j < k
    · simp [z]
    · have : j - k ≠ 0 := by omega
      simp [this]
theorem tb_or (x y : Int32) (j : Nat) : tb (x ||| y) j = (tb x j || tb y j) := by
  unfold tb; rw [Int32.toBitVec_or, BitVec.getLsbD_or]
theorem tb_and' (x y : Int32) (j : Nat) : tb (x &&& y) j = (tb x j && tb y j) := by
  unfold tb; rw [Int32.toBitVec_and, BitVec.getLsbD_and]
theorem tb_0 (j : Nat) : tb 0 j = false := by unfold tb; exact BitVec.getLsbD_zero
theorem tb_ext {x y : Int32} (h : ∀ j, j < 32 → tb x j = tb y j) : x = y := by
  apply Int32.toBitVec_inj.mp
  apply BitVec.eq_of_getLsbD_eq
  exact h
theorem tb_and {x : Int32} {k : Nat} (hk : k < 32) : (x &&& (1 <<< (nI k &&& 31))) = 0 ↔ tb x k = false := by
  constructor
  · intro e
    have := congrArg (fun z => tb z k) e
    simp only [tb_and', tb_one hk, tb_0] at this
    simpa using this
  · intro e
    apply tb_ext
    intro j _
    rw [tb_and', tb_one hk, tb_0]
    by_cases z : j = k
    · subst z; simp [e]
    · simp [z]
theorem tb_shr {x : Int32} {k : Nat} (hk : k < 32) : ((x >>> (nI k &&& 31)) &&& 1) = nI (bif tb x k then 1 else 0) := by
  apply tb_ext
  intro j hj
  rw [tb_and']
  have h1 : tb (x >>> (nI k &&& 31)) 0 = tb x k := by
    unfold tb; rw [shr_bv _ hk, BitVec.getLsbD_sshiftRight]; simp [hk]
  have h2 : tb 1 j = (j == 0) := by
    unfold tb; show (1#32).getLsbD j = _; rw [BitVec.getLsbD_one]; by_cases z : j = 0 <;> simp [z]
  rw [h2]
  by_cases z : j = 0
  · subst z; rw [h1]; cases tb x k <;> decide
  · have hz : (j == 0) = false := by simp [z]
    rw [hz, Bool.and_false]
    cases tb x k
    · exact (tb_0 j).symm
    · show false = tb 1 j; rw [h2, hz]
theorem tb_shr1 {x : Int32} {k : Nat} (hk : k < 32) : ((x >>> (nI k &&& 31)) &&& 1) = 1 ↔ tb x k = true := by
  rw [tb_shr hk]; cases tb x k <;> decide
theorem tb_shr0 {x : Int32} {k : Nat} (hk : k < 32) : ((x >>> (nI k &&& 31)) &&& 1) = 0 ↔ tb x k = false := by
  rw [tb_shr hk]; cases tb x k <;> decide
/-! bits of longs: the low ones are those of the int -/
def tbl (x : Int64) (k : Nat) : Bool := x.toBitVec.getLsbD k
theorem tbl_32 (x : Int64) {k : Nat} (hk : k < 32) : tb x.toInt32 k = tbl x k := by
  unfold tb tbl
  show (x.toBitVec.signExtend 32).getLsbD k = _
  rw [BitVec.getLsbD_signExtend]
  simp [hk]; intro h; omega
theorem and63 {k : Nat} (h : k < 32) : ((nI k).toInt64 &&& 63) = lN k := by
  have : ∀ k : Fin 32, ((nI k.1).toInt64 &&& 63) = lN k.1 := by decide +kernel
  exact this ⟨k, h⟩
theorem smod64 {k : Nat} (h : k < 32) : ((lN k).toBitVec.smod 64).toNat = k := by
  have : ∀ k : Fin 32, ((lN k.1).toBitVec.smod 64).toNat = k.1 := by decide +kernel
  exact this ⟨k, h⟩
theorem tbl_shr {x : Int64} {k : Nat} (hk : k < 32) : ((x >>> ((nI k).toInt64 &&& 63)) &&& 1) = 1 ↔ tbl x k = true := by
  rw [and63 hk]
  have hb : (x >>> lN k).toBitVec = x.toBitVec.sshiftRight k := by
    show x.toBitVec.sshiftRight ((lN k).toBitVec.smod 64).toNat = _
    rw [smod64 hk]
  have h0 : ((x >>> lN k) &&& 1).toBitVec.getLsbD 0 = tbl x k := by
    rw [Int64.toBitVec_and, BitVec.getLsbD_and, hb, BitVec.getLsbD_sshiftRight]
    have e1 : (Int64.toBitVec 1).getLsbD 0 = true := by decide
    rw [e1]
    simp [tbl]; intro h; omega
  constructor
  · intro e; rw [← h0, e]; decide
  · intro e
    apply Int64.toBitVec_inj.mp
    apply BitVec.eq_of_getLsbD_eq
    intro j hj
    by_cases z : j = 0
    · subst z; rw [h0, e]; decide
    · rw [Int64.toBitVec_and, BitVec.getLsbD_and]
      have e1 : (Int64.toBitVec 1).getLsbD j = false := by
        show (1#64).getLsbD j = false
        rw [BitVec.getLsbD_one]; simp [z]
      rw [e1, Bool.and_false]
theorem tbl_or {x : Int64} {k j : Nat} (hk : k < 32) (_hj : j < 32) : tbl (x ||| (1 <<< ((nI k).toInt64 &&& 63))) j = (tbl x j || (j == k)) := by
  rw [and63 hk]
  have hb : ((1 : Int64) <<< lN k).toBitVec = (1#64) <<< k := by
    show (1#64) <<< ((lN k).toBitVec.smod 64).toNat = _
    rw [smod64 hk]
  unfold tbl
  rw [Int64.toBitVec_or, BitVec.getLsbD_or, hb, BitVec.getLsbD_shiftLeft, BitVec.getLsbD_one]
  by_cases e : j = k
  · subst e; simp; omega
  · have hb : (j == k) = false := by simp [e]
    rw [hb]
    by_cases z : j < k
    · simp [z]
    · have : j - k ≠ 0 := by omega
      simp [this]
theorem to64_32 (x : Int32) : x.toInt64.toInt32 = x := by
  first | exact Int32.toInt32_toInt64 x | simp
/-- bools as ints -/
theorem bi0 {b : Bool} : bi b = 0 ↔ b = false := by cases b <;> decide
theorem holds_tb {x : Int32} {k : Nat} (hk : k < 32) : m_ST_holdsName x (nI k) = tb x k := by
  unfold m_ST_holdsName
  by_cases h : tb x k = false
  · rw [if_pos ((tb_and hk).mpr h), h]
  · rw [if_neg (fun z => h ((tb_and hk).mp z))]; simpa using h
