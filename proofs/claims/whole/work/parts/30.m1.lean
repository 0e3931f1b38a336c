/-! THE REFERENCE'S WORLD -/
theorem andL {A B : Prop} (h : (A ∧ B) = True) : A = True := eq_true (of_eq_true h).1
theorem andR {A B : Prop} (h : (A ∧ B) = True) : B = True := eq_true (of_eq_true h).2
/-- rows of longs (0 now, 1 before, 2 kept, 3 stackKey), rows of ints (0 pageSheet, 1 pagePlacement, 2 pageFrom, 3 pageDepth, 4 path, 5 stackPage, 6 twin), numbers (0 thrown, 1 keptCount, 2 keptFirst, 3 lost, 4 pages, 5 firstPage), fresh, firstPlace -/
abbrev SM : Type := (Nat → Nat → Int64) × (Nat → Nat → Int32) × (Nat → Int32) × Bool × Int64
def yL (τ : SM) : Nat → Nat → Int64 := τ.1
def yI (τ : SM) : Nat → Nat → Int32 := τ.2.1
def yn (τ : SM) : Nat → Int32 := τ.2.2.1
def yf (τ : SM) : Bool := τ.2.2.2.1
def yp (τ : SM) : Int64 := τ.2.2.2.2
def wL (τ : SM) (k i : Nat) (v : Int64) : SM := (va_up τ.1 k (vp_updL (τ.1 k) i v), τ.2)
def wI (τ : SM) (k i : Nat) (v : Int32) : SM := (τ.1, va_up τ.2.1 k (upd (τ.2.1 k) i v), τ.2.2)
def wn (τ : SM) (k : Nat) (v : Int32) : SM := (τ.1, τ.2.1, va_up τ.2.2.1 k v, τ.2.2.2)
def wf (τ : SM) (b : Bool) : SM := (τ.1, τ.2.1, τ.2.2.1, b, τ.2.2.2.2)
def wp (τ : SM) (v : Int64) : SM := (τ.1, τ.2.1, τ.2.2.1, τ.2.2.2.1, v)
def lnML : Nat → Nat
  | 0 => 3842
  | 1 => 3842
  | 2 => 192100
  | 3 => 64
  | _ => 0
def lnMI : Nat → Nat
  | 0 => 301
  | 1 => 301
  | 2 => 301
  | 3 => 301
  | 4 => 24
  | 5 => 64
  | 6 => 30
  | _ => 0
def fsM (G : Nat → Nat → Nat) (τ : SM) : List Value := [.int (yn τ 0), .ref (G 5 0), .ref (G 5 1), .ref (G 5 2), .int (yn τ 1), .int (yn τ 2), .int (yn τ 3), .int (bi (yf τ)), .int (yn τ 4), .ref (G 6 0), .ref (G 6 1), .ref (G 6 2), .ref (G 6 3), .ref (G 6 4), .ref (G 6 5), .ref (G 5 3), .ref (G 6 6), .int (yn τ 5), .long (yp τ)]
def lM (G : Nat → Nat → Nat) (cL : ClassId) (τ : SM) (k : Nat) : Nat × va_E := (G 5 k, .inl (cL, lnML k, .inr (.inl (yL τ k))))
def iM (G : Nat → Nat → Nat) (cI : ClassId) (τ : SM) (k : Nat) : Nat × va_E := (G 6 k, .inl (cI, lnMI k, .inl (yI τ k)))
def wsM (G : Nat → Nat → Nat) (cI cL : ClassId) (τ : SM) (rest : va_W) : va_W := [(G 4 0, .inr (CI_Mo, fsM G τ))] ++ ((List.range 4).map (lM G cL τ) ++ ((List.range 7).map (iM G cI τ) ++ rest))
section LKM
variable {G : Nat → Nat → Nat} {cI cL cQ : ClassId} {τ : SM} {rest : va_W}
theorem lkM_o : (wsM G cI cL τ rest)[0]? = some (G 4 0, .inr (CI_Mo, fsM G τ)) := rfl
theorem lkM_l {k : Nat} (hk : k < 4) : (wsM G cI cL τ rest)[1 + k]? = some (G 5 k, .inl (cL, lnML k, .inr (.inl (yL τ k)))) := sg_get (A := ([(G 4 0, .inr (CI_Mo, fsM G τ))] : va_W)) hk
theorem lkM_i {k : Nat} (hk : k < 7) : (wsM G cI cL τ rest)[5 + k]? = some (G 6 k, .inl (cI, lnMI k, .inl (yI τ k))) := by
  have h := sg_get (A := [(G 4 0, .inr (CI_Mo, fsM G τ))] ++ (List.range 4).map (lM G cL τ)) (f := iM G cI τ) (B := rest) hk
  rw [List.append_assoc] at h
  exact h
theorem setM_l {k : Nat} (hk : k < 4) (i : Nat) (v : Int64) : (wsM G cI cL τ rest).set (1 + k) (G 5 k, .inl (cL, lnML k, .inr (.inl (vp_updL (yL τ k) i v)))) = wsM G cI cL (wL τ k i v) rest := by
  have h := sg_set (A := [(G 4 0, .inr (CI_Mo, fsM G τ))]) (f := lM G cL τ) (B := (List.range 7).map (iM G cI τ) ++ rest) (x := (G 5 k, .inl (cL, lnML k, .inr (.inl (vp_updL (yL τ k) i v))))) hk
  refine h.trans ?_
  have hf : va_up (lM G cL τ) k (G 5 k, .inl (cL, lnML k, .inr (.inl (vp_updL (yL τ k) i v)))) = lM G cL (wL τ k i v) := by
    funext q
    by_cases hq : q = k
    · subst hq; simp [va_up, lM, yL, wL]
    · simp [va_up, lM, yL, wL, hq]
  rw [hf]
  rfl
theorem setM_i {k : Nat} (hk : k < 7) (i : Nat) (v : Int32) : (wsM G cI cL τ rest).set (5 + k) (G 6 k, .inl (cI, lnMI k, .inl (upd (yI τ k) i v))) = wsM G cI cL (wI τ k i v) rest := by
  have h := sg_set (A := [(G 4 0, .inr (CI_Mo, fsM G τ))] ++ (List.range 4).map (lM G cL τ)) (f := iM G cI τ) (B := rest) (x := (G 6 k, .inl (cI, lnMI k, .inl (upd (yI τ k) i v)))) hk
  rw [List.append_assoc] at h
  refine h.trans ?_
  have hf : va_up (iM G cI τ) k (G 6 k, .inl (cI, lnMI k, .inl (upd (yI τ k) i v))) = iM G cI (wI τ k i v) := by
    funext q
    by_cases hq : q = k
    · subst hq; simp [va_up, iM, yI, wI]
    · simp [va_up, iM, yI, wI, hq]
  rw [hf, List.append_assoc]
  rfl
theorem setM_n0 {v : Int32} : (wsM G cI cL τ rest).set 0 (G 4 0, .inr (CI_Mo, (fsM G τ).set 0 (.int v))) = wsM G cI cL (wn τ 0 v) rest := rfl
theorem setM_n1 {v : Int32} : (wsM G cI cL τ rest).set 0 (G 4 0, .inr (CI_Mo, (fsM G τ).set 4 (.int v))) = wsM G cI cL (wn τ 1 v) rest := rfl
theorem setM_n2 {v : Int32} : (wsM G cI cL τ rest).set 0 (G 4 0, .inr (CI_Mo, (fsM G τ).set 5 (.int v))) = wsM G cI cL (wn τ 2 v) rest := rfl
theorem setM_n3 {v : Int32} : (wsM G cI cL τ rest).set 0 (G 4 0, .inr (CI_Mo, (fsM G τ).set 6 (.int v))) = wsM G cI cL (wn τ 3 v) rest := rfl
theorem setM_n4 {v : Int32} : (wsM G cI cL τ rest).set 0 (G 4 0, .inr (CI_Mo, (fsM G τ).set 8 (.int v))) = wsM G cI cL (wn τ 4 v) rest := rfl
theorem setM_n5 {v : Int32} : (wsM G cI cL τ rest).set 0 (G 4 0, .inr (CI_Mo, (fsM G τ).set 17 (.int v))) = wsM G cI cL (wn τ 5 v) rest := rfl
theorem setM_f {b : Bool} : (wsM G cI cL τ rest).set 0 (G 4 0, .inr (CI_Mo, (fsM G τ).set 7 (.int (bi b)))) = wsM G cI cL (wf τ b) rest := rfl
theorem setM_p {v : Int64} : (wsM G cI cL τ rest).set 0 (G 4 0, .inr (CI_Mo, (fsM G τ).set 18 (.long v))) = wsM G cI cL (wp τ v) rest := rfl
end LKM
def m_Mo_thrown (τ : SM) : Int32 :=
  (yn τ 0)

def k_Mo_thrown (τ : SM) : Prop :=
  True

def m_Mo_count (τ : SM) (x0 : Int32) : Int32 :=
  (yL τ 0 x0.toNatClampNeg).toInt32

def k_Mo_count (τ : SM) (x0 : Int32) : Prop :=
  (vp_in x0 (lnML 0)) ∧
  True

def m_Mo_isSheet (τ : SM) (x0 : Int32) : Bool :=
  if x0 < 0 then
    false
  else
    if (m_Mo_count τ 0) ≤ x0 then
      false
    else
      true

def k_Mo_isSheet (τ : SM) (x0 : Int32) : Prop :=
  if x0 < 0 then
    True
  else
    (k_Mo_count τ 0) ∧
    if (m_Mo_count τ 0) ≤ x0 then
      True
    else
      True

def m_Mo_isPlacement (τ : SM) (x0 : Int32) : Bool :=
  if x0 < 0 then
    false
  else
    if (m_Mo_count τ 1) ≤ x0 then
      false
    else
      if (lg_cmp (yL τ 0 (152 + x0).toNatClampNeg) 0) < 0 then
        false
      else
        true

def k_Mo_isPlacement (τ : SM) (x0 : Int32) : Prop :=
  if x0 < 0 then
    True
  else
    (k_Mo_count τ 1) ∧
    if (m_Mo_count τ 1) ≤ x0 then
      True
    else
      (vp_in (152 + x0) (lnML 0)) ∧
      if (lg_cmp (yL τ 0 (152 + x0).toNatClampNeg) 0) < 0 then
        True
      else
        True

def m_Mo_isName (x0 : Int32) : Bool :=
  if x0 < 0 then
    false
  else
    if 32 ≤ x0 then
      false
    else
      true

def k_Mo_isName (x0 : Int32) : Prop :=
  if x0 < 0 then
    True
  else
    if 32 ≤ x0 then
      True
    else
      True

def m_Mo_isPart (τ : SM) (x0 : Int32) : Bool :=
  if x0 < 0 then
    false
  else
    if (m_Mo_count τ 2) ≤ x0 then
      false
    else
      true

def k_Mo_isPart (τ : SM) (x0 : Int32) : Prop :=
  if x0 < 0 then
    True
  else
    (k_Mo_count τ 2) ∧
    if (m_Mo_count τ 2) ≤ x0 then
      True
    else
      True

def m_Mo_isGate (τ : SM) (x0 : Int32) (x1 : Int32) : Bool :=
  if (bi (m_Mo_isPart τ x0)) = 0 then
    false
  else
    if x1 < 0 then
      false
    else
      if 0 ≤ (lg_cmp x1.toInt64 (yL τ 0 (2162 + x0).toNatClampNeg)) then
        false
      else
        true

def k_Mo_isGate (τ : SM) (x0 : Int32) (x1 : Int32) : Prop :=
  (k_Mo_isPart τ x0) ∧
  if (bi (m_Mo_isPart τ x0)) = 0 then
    True
  else
    if x1 < 0 then
      True
    else
      (vp_in (2162 + x0) (lnML 0)) ∧
      if 0 ≤ (lg_cmp x1.toInt64 (yL τ 0 (2162 + x0).toNatClampNeg)) then
        True
      else
        True

def m_Mo_isVariant (τ : SM) (x0 : Int32) : Bool :=
  if x0 < 0 then
    false
  else
    if (m_Mo_count τ 3) ≤ x0 then
      false
    else
      true

def k_Mo_isVariant (τ : SM) (x0 : Int32) : Prop :=
  if x0 < 0 then
    True
  else
    (k_Mo_count τ 3) ∧
    if (m_Mo_count τ 3) ≤ x0 then
      True
    else
      True

def m_Mo_hasName (τ : SM) (x0 : Int64) (x1 : Int32) : Bool :=
  if (lg_cmp (((yL τ 0 (8 + x0.toInt32).toNatClampNeg) >>> (x1.toInt64 &&& 63)) &&& 1) 1) = 0 then
    true
  else
    false

def k_Mo_hasName (τ : SM) (x0 : Int64) (x1 : Int32) : Prop :=
  (vp_in (8 + x0.toInt32) (lnML 0)) ∧
  if (lg_cmp (((yL τ 0 (8 + x0.toInt32).toNatClampNeg) >>> (x1.toInt64 &&& 63)) &&& 1) 1) = 0 then
    True
  else
    True

def lp_Mo_next_6 : Nat → SM → Int32 → Int64 → Int32 → Int32 → Int32
  | 0, τ, _, _, _, _ => 0
  | n + 1, τ, v1, v2, v4, v5 =>
    if (m_Mo_count τ 1) ≤ v5 then
      v4
    else
      if (lg_cmp (yL τ 0 (152 + v5).toNatClampNeg) v2) ≤ 0 then
        lp_Mo_next_6 n τ v1 v2 v4 (v5 + 1)
      else
        if (lg_cmp (yL τ 0 (32 + v5).toNatClampNeg) v1.toInt64) = 0 then
          if v4 = (-1) then
            lp_Mo_next_6 n τ v1 v2 v5 (v5 + 1)
          else
            if 0 ≤ (lg_cmp (yL τ 0 (152 + v5).toNatClampNeg) (yL τ 0 (152 + v4).toNatClampNeg)) then
              lp_Mo_next_6 n τ v1 v2 v4 (v5 + 1)
            else
              lp_Mo_next_6 n τ v1 v2 v5 (v5 + 1)
        else
          lp_Mo_next_6 n τ v1 v2 v4 (v5 + 1)
def kl_Mo_next_6 : Nat → SM → Int32 → Int64 → Int32 → Int32 → Prop
  | 0, _, _, _, _, _ => True
  | n + 1, τ, v1, v2, v4, v5 =>
    (k_Mo_count τ 1) ∧
    if (m_Mo_count τ 1) ≤ v5 then
      True
    else
      (vp_in (152 + v5) (lnML 0)) ∧
      if (lg_cmp (yL τ 0 (152 + v5).toNatClampNeg) v2) ≤ 0 then
        kl_Mo_next_6 n τ v1 v2 v4 (v5 + 1)
      else
        (vp_in (32 + v5) (lnML 0)) ∧
        if (lg_cmp (yL τ 0 (32 + v5).toNatClampNeg) v1.toInt64) = 0 then
          if v4 = (-1) then
            kl_Mo_next_6 n τ v1 v2 v5 (v5 + 1)
          else
            (vp_in (152 + v5) (lnML 0)) ∧
            (vp_in (152 + v4) (lnML 0)) ∧
            if 0 ≤ (lg_cmp (yL τ 0 (152 + v5).toNatClampNeg) (yL τ 0 (152 + v4).toNatClampNeg)) then
              kl_Mo_next_6 n τ v1 v2 v4 (v5 + 1)
            else
              kl_Mo_next_6 n τ v1 v2 v5 (v5 + 1)
        else
          kl_Mo_next_6 n τ v1 v2 v4 (v5 + 1)

def m_Mo_next (τ : SM) (x0 : Int32) (x1 : Int64) : Int32 :=
  lp_Mo_next_6 ((m_Mo_count τ 1).toNatClampNeg + 1) τ x0 x1 (-1) 0

def k_Mo_next (τ : SM) (x0 : Int32) (x1 : Int64) : Prop :=
  kl_Mo_next_6 ((m_Mo_count τ 1).toNatClampNeg + 1) τ x0 x1 (-1) 0

def lp_Mo_placementsOn_4 : Nat → SM → Int32 → Int32 → Int32 → Int32
  | 0, τ, _, _, _ => 0
  | n + 1, τ, v1, v2, v3 =>
    if (m_Mo_count τ 1) ≤ v3 then
      v2
    else
      if (lg_cmp (yL τ 0 (152 + v3).toNatClampNeg) 0) < 0 then
        lp_Mo_placementsOn_4 n τ v1 (v2 + 0) (v3 + 1)
      else
        if (lg_cmp (yL τ 0 (32 + v3).toNatClampNeg) v1.toInt64) = 0 then
          lp_Mo_placementsOn_4 n τ v1 (v2 + 1) (v3 + 1)
        else
          lp_Mo_placementsOn_4 n τ v1 (v2 + 0) (v3 + 1)
def kl_Mo_placementsOn_4 : Nat → SM → Int32 → Int32 → Int32 → Prop
  | 0, _, _, _, _ => True
  | n + 1, τ, v1, v2, v3 =>
    (k_Mo_count τ 1) ∧
    if (m_Mo_count τ 1) ≤ v3 then
      True
    else
      (vp_in (152 + v3) (lnML 0)) ∧
      if (lg_cmp (yL τ 0 (152 + v3).toNatClampNeg) 0) < 0 then
        kl_Mo_placementsOn_4 n τ v1 (v2 + 0) (v3 + 1)
      else
        (vp_in (32 + v3) (lnML 0)) ∧
        if (lg_cmp (yL τ 0 (32 + v3).toNatClampNeg) v1.toInt64) = 0 then
          kl_Mo_placementsOn_4 n τ v1 (v2 + 1) (v3 + 1)
        else
          kl_Mo_placementsOn_4 n τ v1 (v2 + 0) (v3 + 1)

def m_Mo_placementsOn (τ : SM) (x0 : Int32) : Int32 :=
  lp_Mo_placementsOn_4 ((m_Mo_count τ 1).toNatClampNeg + 1) τ x0 0 0

def k_Mo_placementsOn (τ : SM) (x0 : Int32) : Prop :=
  kl_Mo_placementsOn_4 ((m_Mo_count τ 1).toNatClampNeg + 1) τ x0 0 0

def lp_Mo_gatesOn_4 : Nat → SM → Int32 → Int32 → Int32 → Int32
  | 0, τ, _, _, _ => 0
  | n + 1, τ, v1, v2, v3 =>
    if (8 * (m_Mo_count τ 2)) ≤ v3 then
      v2
    else
      if (lg_cmp (yL τ 0 (2192 + v3).toNatClampNeg) (v1.toInt64 + 1)) = 0 then
        lp_Mo_gatesOn_4 n τ v1 (v2 + 1) (v3 + 1)
      else
        lp_Mo_gatesOn_4 n τ v1 (v2 + 0) (v3 + 1)
def kl_Mo_gatesOn_4 : Nat → SM → Int32 → Int32 → Int32 → Prop
  | 0, _, _, _, _ => True
  | n + 1, τ, v1, v2, v3 =>
    (k_Mo_count τ 2) ∧
    if (8 * (m_Mo_count τ 2)) ≤ v3 then
      True
    else
      (vp_in (2192 + v3) (lnML 0)) ∧
      if (lg_cmp (yL τ 0 (2192 + v3).toNatClampNeg) (v1.toInt64 + 1)) = 0 then
        kl_Mo_gatesOn_4 n τ v1 (v2 + 1) (v3 + 1)
      else
        kl_Mo_gatesOn_4 n τ v1 (v2 + 0) (v3 + 1)

def m_Mo_gatesOn (τ : SM) (x0 : Int32) : Int32 :=
  lp_Mo_gatesOn_4 ((8 * m_Mo_count τ 2).toNatClampNeg + 1) τ x0 0 0

def k_Mo_gatesOn (τ : SM) (x0 : Int32) : Prop :=
  kl_Mo_gatesOn_4 ((8 * m_Mo_count τ 2).toNatClampNeg + 1) τ x0 0 0

def lp_Mo_nextGate_6 : Nat → SM → Int32 → Int64 → Int32 → Int32 → Int32
  | 0, τ, _, _, _, _ => 0
  | n + 1, τ, v1, v2, v4, v5 =>
    if (8 * (m_Mo_count τ 2)) ≤ v5 then
      v4
    else
      if (lg_cmp (yL τ 0 (2192 + v5).toNatClampNeg) (v1.toInt64 + 1)) = 0 then
        if 0 < (lg_cmp (yL τ 0 (2432 + v5).toNatClampNeg) v2) then
          if v4 = (-1) then
            lp_Mo_nextGate_6 n τ v1 v2 v5 (v5 + 1)
          else
            if 0 ≤ (lg_cmp (yL τ 0 (2432 + v5).toNatClampNeg) (yL τ 0 (2432 + v4).toNatClampNeg)) then
              lp_Mo_nextGate_6 n τ v1 v2 v4 (v5 + 1)
            else
              lp_Mo_nextGate_6 n τ v1 v2 v5 (v5 + 1)
        else
          lp_Mo_nextGate_6 n τ v1 v2 v4 (v5 + 1)
      else
        lp_Mo_nextGate_6 n τ v1 v2 v4 (v5 + 1)
def kl_Mo_nextGate_6 : Nat → SM → Int32 → Int64 → Int32 → Int32 → Prop
  | 0, _, _, _, _, _ => True
  | n + 1, τ, v1, v2, v4, v5 =>
    (k_Mo_count τ 2) ∧
    if (8 * (m_Mo_count τ 2)) ≤ v5 then
      True
    else
      (vp_in (2192 + v5) (lnML 0)) ∧
      if (lg_cmp (yL τ 0 (2192 + v5).toNatClampNeg) (v1.toInt64 + 1)) = 0 then
        (vp_in (2432 + v5) (lnML 0)) ∧
        if 0 < (lg_cmp (yL τ 0 (2432 + v5).toNatClampNeg) v2) then
          if v4 = (-1) then
            kl_Mo_nextGate_6 n τ v1 v2 v5 (v5 + 1)
          else
            (vp_in (2432 + v5) (lnML 0)) ∧
            (vp_in (2432 + v4) (lnML 0)) ∧
            if 0 ≤ (lg_cmp (yL τ 0 (2432 + v5).toNatClampNeg) (yL τ 0 (2432 + v4).toNatClampNeg)) then
              kl_Mo_nextGate_6 n τ v1 v2 v4 (v5 + 1)
            else
              kl_Mo_nextGate_6 n τ v1 v2 v5 (v5 + 1)
        else
          kl_Mo_nextGate_6 n τ v1 v2 v4 (v5 + 1)
      else
        kl_Mo_nextGate_6 n τ v1 v2 v4 (v5 + 1)

def m_Mo_nextGate (τ : SM) (x0 : Int32) (x1 : Int64) : Int32 :=
  lp_Mo_nextGate_6 ((8 * m_Mo_count τ 2).toNatClampNeg + 1) τ x0 x1 (-1) 0

def k_Mo_nextGate (τ : SM) (x0 : Int32) (x1 : Int64) : Prop :=
  kl_Mo_nextGate_6 ((8 * m_Mo_count τ 2).toNatClampNeg + 1) τ x0 x1 (-1) 0

section SMW
variable {l : Launch} {D : va_G} {N0 N1 : Nat} {G : Nat → Nat → Nat} {cI cL cQ : ClassId} {rest : va_W}
set_option maxHeartbeats 400000 in
set_option maxRecDepth 100000 in
theorem c_Mo_thrown  (τ : SM)   (hk : (k_Mo_thrown τ) = True) : CM l y_Mo_thrown b_Mo_thrown 1 (some .int) { frames := 0, cells := 0, slots := 0, locals := 0 } D (tyL cI cL cQ) N0 N1 [.ref (G 4 0)] (wsM G cI cL τ rest) (some (.int (m_Mo_thrown τ))) (fun w => w = wsM G cI cL τ rest) 0 0 := by
  generalize hR : m_Mo_thrown τ = RES
  refine met_of (own := R_Mo) (by decide) rfl nwl_ok ?_
  intro p e s m below meth c hC hin hB
  have hx := hC.1
  have hb := hC.2.1
  have hl := lv_entry ([.ref (G 4 0)]) (n := 1) (Nat.le_of_ble_eq_true rfl)
  rw [lg_entry_eq]
  generalize (lg_sl ([.ref (G 4 0)]) ++ List.replicate (1 - (lg_sl ([.ref (G 4 0)])).length) Slot.unset).toArray = ls at hl ⊢
  have hl : lv_has ls 1 [(0, .ref (G 4 0))] := hl
  rw [m_Mo_thrown] at hR
  rw [k_Mo_thrown] at hk
  refine lv_aload_n hx hb d_Mo_thrown_0 rfl (lv_at hl 0 rfl) ?_
  refine gt (v := .int (yn τ 0)) hC hB _ lkM_o rfl i_Mo 0 (by decide) rfl kw_891 rfl d_Mo_thrown_1 ?_
  subst hR
  exact ri hC hB rfl d_Mo_thrown_4

set_option maxHeartbeats 400000 in
set_option maxRecDepth 100000 in
theorem c_Mo_count  (τ : SM)  (x0 : Int32) (hk : (k_Mo_count τ x0) = True) : CM l y_Mo_count b_Mo_count 2 (some .int) { frames := 0, cells := 0, slots := 0, locals := 0 } D (tyL cI cL cQ) N0 N1 [.ref (G 4 0), .int x0] (wsM G cI cL τ rest) (some (.int (m_Mo_count τ x0))) (fun w => w = wsM G cI cL τ rest) 0 0 := by
  generalize hR : m_Mo_count τ x0 = RES
  refine met_of (own := R_Mo) (by decide) rfl nwl_ok ?_
  intro p e s m below meth c hC hin hB
  have hx := hC.1
  have hb := hC.2.1
  have hl := lv_entry ([.ref (G 4 0), .int x0]) (n := 2) (Nat.le_of_ble_eq_true rfl)
  rw [lg_entry_eq]
  generalize (lg_sl ([.ref (G 4 0), .int x0]) ++ List.replicate (2 - (lg_sl ([.ref (G 4 0), .int x0])).length) Slot.unset).toArray = ls at hl ⊢
  have hl : lv_has ls 2 [(0, .ref (G 4 0)), (1, .int x0)] := hl
  rw [m_Mo_count] at hR
  rw [k_Mo_count] at hk
  refine lv_aload_n hx hb d_Mo_count_0 rfl (lv_at hl 0 rfl) ?_
  refine gt hC hB _ lkM_o rfl i_Mo 1 (by decide) rfl kw_892 rfl d_Mo_count_1 ?_
  refine lv_iload_n hx hb d_Mo_count_4 rfl (lv_at hl 1 rfl) ?_
  refine va_lald hx hb hC.2.2.2.2.2.2.2.1.1 hB.1 _ 1 (lkM_l (by decide : 0 < 4)) rfl (of_eq_true (andL hk)) d_Mo_count_5 ?_
  replace hk := andR hk
  refine lv_l2i hx hb d_Mo_count_6 rfl ?_
  subst hR
  exact ri hC hB rfl d_Mo_count_7

set_option maxHeartbeats 400000 in
set_option maxRecDepth 100000 in
theorem c_Mo_isSheet  (τ : SM)  (x0 : Int32) (hk : (k_Mo_isSheet τ x0) = True) : CM l y_Mo_isSheet b_Mo_isSheet 2 (some .boolean) { frames := 1, cells := 0, slots := 0, locals := 21 } D (tyL cI cL cQ) N0 N1 [.ref (G 4 0), .int x0] (wsM G cI cL τ rest) (some (.int (bi (m_Mo_isSheet τ x0)))) (fun w => w = wsM G cI cL τ rest) 0 0 := by
  generalize hR : m_Mo_isSheet τ x0 = RES
  refine met_of (own := R_Mo) (by decide) rfl nwl_ok ?_
  intro p e s m below meth c hC hin hB
  have hx := hC.1
  have hb := hC.2.1
  have hl := lv_entry ([.ref (G 4 0), .int x0]) (n := 2) (Nat.le_of_ble_eq_true rfl)
  rw [lg_entry_eq]
  generalize (lg_sl ([.ref (G 4 0), .int x0]) ++ List.replicate (2 - (lg_sl ([.ref (G 4 0), .int x0])).length) Slot.unset).toArray = ls at hl ⊢
  have hl : lv_has ls 2 [(0, .ref (G 4 0)), (1, .int x0)] := hl
  rw [m_Mo_isSheet] at hR
  rw [k_Mo_isSheet] at hk
  refine lv_iload_n hx hb d_Mo_isSheet_0 rfl (lv_at hl 1 rfl) ?_
  refine lv_if_lt (tgt := 17) hx hb d_Mo_isSheet_1 (by decide) (fun c_1 => ?_) (fun c_1 => ?_)
  · rw [if_pos c_1] at hR hk
    refine lv_iconst (v := 0) hx hb d_Mo_isSheet_17 (by decide) ?_
    subst hR
    exact rz (b := false) hC hB rfl d_Mo_isSheet_18
  · rw [if_neg c_1] at hR hk
    refine lv_iload_n hx hb d_Mo_isSheet_4 rfl (lv_at hl 1 rfl) ?_
    refine lv_aload_n hx hb d_Mo_isSheet_5 rfl (lv_at hl 0 rfl) ?_
    refine lv_iconst (v := 0) hx hb d_Mo_isSheet_6 (by decide) ?_
    refine kV hC hB _ lkM_o rfl (c_Mo_count τ  0 (andL hk)) allw_ok mf_Mo_count kw_963 ks_29 kw_961 ⟨rfl, rfl, Nat.le_of_ble_eq_true rfl, Nat.le_of_ble_eq_true rfl⟩ rfl rfl hl.1 (Nat.le_of_ble_eq_true rfl) d_Mo_isSheet_7 ⟨Nat.le_of_ble_eq_true rfl, Nat.le_of_ble_eq_true rfl⟩ (roK fun H locs hB => ?_)
    replace hk := andR hk
    refine lv_icmp_ge (tgt := 17) hx hb d_Mo_isSheet_10 (by decide) (fun c_2 => ?_) (fun c_2 => ?_)
    · rw [if_pos c_2] at hR hk
      refine lv_iconst (v := 0) hx hb d_Mo_isSheet_17 (by decide) ?_
      subst hR
      exact rz (b := false) hC hB rfl d_Mo_isSheet_18
    · rw [if_neg c_2] at hR hk
      refine lv_iconst (v := 1) hx hb d_Mo_isSheet_13 (by decide) ?_
      refine lv_goto (tgt := 18) hx hb d_Mo_isSheet_14 (by decide) ?_
      subst hR
      exact rz (b := true) hC hB rfl d_Mo_isSheet_18

set_option maxHeartbeats 400000 in
set_option maxRecDepth 100000 in
theorem c_Mo_isPlacement  (τ : SM)  (x0 : Int32) (hk : (k_Mo_isPlacement τ x0) = True) : CM l y_Mo_isPlacement b_Mo_isPlacement 2 (some .boolean) { frames := 1, cells := 0, slots := 0, locals := 21 } D (tyL cI cL cQ) N0 N1 [.ref (G 4 0), .int x0] (wsM G cI cL τ rest) (some (.int (bi (m_Mo_isPlacement τ x0)))) (fun w => w = wsM G cI cL τ rest) 0 0 := by
  generalize hR : m_Mo_isPlacement τ x0 = RES
  refine met_of (own := R_Mo) (by decide) rfl nwl_ok ?_
  intro p e s m below meth c hC hin hB
  have hx := hC.1
  have hb := hC.2.1
  have hl := lv_entry ([.ref (G 4 0), .int x0]) (n := 2) (Nat.le_of_ble_eq_true rfl)
  rw [lg_entry_eq]
  generalize (lg_sl ([.ref (G 4 0), .int x0]) ++ List.replicate (2 - (lg_sl ([.ref (G 4 0), .int x0])).length) Slot.unset).toArray = ls at hl ⊢
  have hl : lv_has ls 2 [(0, .ref (G 4 0)), (1, .int x0)] := hl
  rw [m_Mo_isPlacement] at hR
  rw [k_Mo_isPlacement] at hk
  refine lv_iload_n hx hb d_Mo_isPlacement_0 rfl (lv_at hl 1 rfl) ?_
  refine lv_if_lt (tgt := 32) hx hb d_Mo_isPlacement_1 (by decide) (fun c_1 => ?_) (fun c_1 => ?_)
  · rw [if_pos c_1] at hR hk
    refine lv_iconst (v := 0) hx hb d_Mo_isPlacement_32 (by decide) ?_
    subst hR
    exact rz (b := false) hC hB rfl d_Mo_isPlacement_33
  · rw [if_neg c_1] at hR hk
    refine lv_iload_n hx hb d_Mo_isPlacement_4 rfl (lv_at hl 1 rfl) ?_
    refine lv_aload_n hx hb d_Mo_isPlacement_5 rfl (lv_at hl 0 rfl) ?_
    refine lv_iconst (v := 1) hx hb d_Mo_isPlacement_6 (by decide) ?_
    refine kV hC hB _ lkM_o rfl (c_Mo_count τ  1 (andL hk)) allw_ok mf_Mo_count kw_963 ks_29 kw_961 ⟨rfl, rfl, Nat.le_of_ble_eq_true rfl, Nat.le_of_ble_eq_true rfl⟩ rfl rfl hl.1 (Nat.le_of_ble_eq_true rfl) d_Mo_isPlacement_7 ⟨Nat.le_of_ble_eq_true rfl, Nat.le_of_ble_eq_true rfl⟩ (roK fun H locs hB => ?_)
    replace hk := andR hk
    refine lv_icmp_ge (tgt := 32) hx hb d_Mo_isPlacement_10 (by decide) (fun c_2 => ?_) (fun c_2 => ?_)
    · rw [if_pos c_2] at hR hk
      refine lv_iconst (v := 0) hx hb d_Mo_isPlacement_32 (by decide) ?_
      subst hR
      exact rz (b := false) hC hB rfl d_Mo_isPlacement_33
    · rw [if_neg c_2] at hR hk
      refine lv_aload_n hx hb d_Mo_isPlacement_13 rfl (lv_at hl 0 rfl) ?_
      refine gt hC hB _ lkM_o rfl i_Mo 1 (by decide) rfl kw_892 rfl d_Mo_isPlacement_14 ?_
      refine lv_sipush (v := 152) hx hb d_Mo_isPlacement_17 (by decide) ?_
      refine lv_iload_n hx hb d_Mo_isPlacement_20 rfl (lv_at hl 1 rfl) ?_
      refine lv_iadd hx hb d_Mo_isPlacement_21 ?_
      refine va_lald hx hb hC.2.2.2.2.2.2.2.1.1 hB.1 _ 1 (lkM_l (by decide : 0 < 4)) rfl (of_eq_true (andL hk)) d_Mo_isPlacement_22 ?_
      replace hk := andR hk
      refine lv_lconst (v := 0) hx hb d_Mo_isPlacement_23 (by decide) ?_
      refine W.lcmp hx hb d_Mo_isPlacement_24 ?_
      refine lv_if_lt (tgt := 32) hx hb d_Mo_isPlacement_25 (by decide) (fun c_3 => ?_) (fun c_3 => ?_)
      · rw [if_pos c_3] at hR hk
        refine lv_iconst (v := 0) hx hb d_Mo_isPlacement_32 (by decide) ?_
        subst hR
        exact rz (b := false) hC hB rfl d_Mo_isPlacement_33
      · rw [if_neg c_3] at hR hk
        refine lv_iconst (v := 1) hx hb d_Mo_isPlacement_28 (by decide) ?_
        refine lv_goto (tgt := 33) hx hb d_Mo_isPlacement_29 (by decide) ?_
        subst hR
        exact rz (b := true) hC hB rfl d_Mo_isPlacement_33

set_option maxHeartbeats 400000 in
set_option maxRecDepth 100000 in
theorem c_Mo_isName  (τ : SM)  (x0 : Int32) (hk : (k_Mo_isName x0) = True) : CM l y_Mo_isName b_Mo_isName 1 (some .boolean) { frames := 0, cells := 0, slots := 0, locals := 0 } D (tyL cI cL cQ) N0 N1 [.int x0] (wsM G cI cL τ rest) (some (.int (bi (m_Mo_isName x0)))) (fun w => w = wsM G cI cL τ rest) 0 0 := by
  generalize hR : m_Mo_isName x0 = RES
  refine met_of (own := R_Mo) (by decide) rfl nwl_ok ?_
  intro p e s m below meth c hC hin hB
  have hx := hC.1
  have hb := hC.2.1
  have hl := lv_entry ([.int x0]) (n := 1) (Nat.le_of_ble_eq_true rfl)
  rw [lg_entry_eq]
  generalize (lg_sl ([.int x0]) ++ List.replicate (1 - (lg_sl ([.int x0])).length) Slot.unset).toArray = ls at hl ⊢
  have hl : lv_has ls 1 [(0, .int x0)] := hl
  rw [m_Mo_isName] at hR
  rw [k_Mo_isName] at hk
  refine lv_iload_n hx hb d_Mo_isName_0 rfl (lv_at hl 0 rfl) ?_
  refine lv_if_lt (tgt := 14) hx hb d_Mo_isName_1 (by decide) (fun c_1 => ?_) (fun c_1 => ?_)
  · rw [if_pos c_1] at hR hk
    refine lv_iconst (v := 0) hx hb d_Mo_isName_14 (by decide) ?_
    subst hR
    exact rz (b := false) hC hB rfl d_Mo_isName_15
  · rw [if_neg c_1] at hR hk
    refine lv_iload_n hx hb d_Mo_isName_4 rfl (lv_at hl 0 rfl) ?_
    refine lv_bipush (v := 32) hx hb d_Mo_isName_5 (by decide) ?_
    refine lv_icmp_ge (tgt := 14) hx hb d_Mo_isName_7 (by decide) (fun c_2 => ?_) (fun c_2 => ?_)
    · rw [if_pos c_2] at hR hk
      refine lv_iconst (v := 0) hx hb d_Mo_isName_14 (by decide) ?_
      subst hR
      exact rz (b := false) hC hB rfl d_Mo_isName_15
    · rw [if_neg c_2] at hR hk
      refine lv_iconst (v := 1) hx hb d_Mo_isName_10 (by decide) ?_
      refine lv_goto (tgt := 15) hx hb d_Mo_isName_11 (by decide) ?_
      subst hR
      exact rz (b := true) hC hB rfl d_Mo_isName_15

set_option maxHeartbeats 400000 in
set_option maxRecDepth 100000 in
theorem c_Mo_isPart  (τ : SM)  (x0 : Int32) (hk : (k_Mo_isPart τ x0) = True) : CM l y_Mo_isPart b_Mo_isPart 2 (some .boolean) { frames := 1, cells := 0, slots := 0, locals := 21 } D (tyL cI cL cQ) N0 N1 [.ref (G 4 0), .int x0] (wsM G cI cL τ rest) (some (.int (bi (m_Mo_isPart τ x0)))) (fun w => w = wsM G cI cL τ rest) 0 0 := by
  generalize hR : m_Mo_isPart τ x0 = RES
  refine met_of (own := R_Mo) (by decide) rfl nwl_ok ?_
  intro p e s m below meth c hC hin hB
  have hx := hC.1
  have hb := hC.2.1
  have hl := lv_entry ([.ref (G 4 0), .int x0]) (n := 2) (Nat.le_of_ble_eq_true rfl)
  rw [lg_entry_eq]
  generalize (lg_sl ([.ref (G 4 0), .int x0]) ++ List.replicate (2 - (lg_sl ([.ref (G 4 0), .int x0])).length) Slot.unset).toArray = ls at hl ⊢
  have hl : lv_has ls 2 [(0, .ref (G 4 0)), (1, .int x0)] := hl
  rw [m_Mo_isPart] at hR
  rw [k_Mo_isPart] at hk
  refine lv_iload_n hx hb d_Mo_isPart_0 rfl (lv_at hl 1 rfl) ?_
  refine lv_if_lt (tgt := 17) hx hb d_Mo_isPart_1 (by decide) (fun c_1 => ?_) (fun c_1 => ?_)
  · rw [if_pos c_1] at hR hk
    refine lv_iconst (v := 0) hx hb d_Mo_isPart_17 (by decide) ?_
    subst hR
    exact rz (b := false) hC hB rfl d_Mo_isPart_18
  · rw [if_neg c_1] at hR hk
    refine lv_iload_n hx hb d_Mo_isPart_4 rfl (lv_at hl 1 rfl) ?_
    refine lv_aload_n hx hb d_Mo_isPart_5 rfl (lv_at hl 0 rfl) ?_
    refine lv_iconst (v := 2) hx hb d_Mo_isPart_6 (by decide) ?_
    refine kV hC hB _ lkM_o rfl (c_Mo_count τ  2 (andL hk)) allw_ok mf_Mo_count kw_963 ks_29 kw_961 ⟨rfl, rfl, Nat.le_of_ble_eq_true rfl, Nat.le_of_ble_eq_true rfl⟩ rfl rfl hl.1 (Nat.le_of_ble_eq_true rfl) d_Mo_isPart_7 ⟨Nat.le_of_ble_eq_true rfl, Nat.le_of_ble_eq_true rfl⟩ (roK fun H locs hB => ?_)
    replace hk := andR hk
    refine lv_icmp_ge (tgt := 17) hx hb d_Mo_isPart_10 (by decide) (fun c_2 => ?_) (fun c_2 => ?_)
    · rw [if_pos c_2] at hR hk
      refine lv_iconst (v := 0) hx hb d_Mo_isPart_17 (by decide) ?_
      subst hR
      exact rz (b := false) hC hB rfl d_Mo_isPart_18
    · rw [if_neg c_2] at hR hk
      refine lv_iconst (v := 1) hx hb d_Mo_isPart_13 (by decide) ?_
      refine lv_goto (tgt := 18) hx hb d_Mo_isPart_14 (by decide) ?_
      subst hR
      exact rz (b := true) hC hB rfl d_Mo_isPart_18

set_option maxHeartbeats 400000 in
set_option maxRecDepth 100000 in
theorem c_Mo_isGate  (τ : SM)  (x0 : Int32) (x1 : Int32) (hk : (k_Mo_isGate τ x0 x1) = True) : CM l y_Mo_isGate b_Mo_isGate 3 (some .boolean) { frames := 2, cells := 0, slots := 0, locals := 42 } D (tyL cI cL cQ) N0 N1 [.ref (G 4 0), .int x0, .int x1] (wsM G cI cL τ rest) (some (.int (bi (m_Mo_isGate τ x0 x1)))) (fun w => w = wsM G cI cL τ rest) 0 0 := by
  generalize hR : m_Mo_isGate τ x0 x1 = RES
  refine met_of (own := R_Mo) (by decide) rfl nwl_ok ?_
  intro p e s m below meth c hC hin hB
  have hx := hC.1
  have hb := hC.2.1
  have hl := lv_entry ([.ref (G 4 0), .int x0, .int x1]) (n := 3) (Nat.le_of_ble_eq_true rfl)
  rw [lg_entry_eq]
  generalize (lg_sl ([.ref (G 4 0), .int x0, .int x1]) ++ List.replicate (3 - (lg_sl ([.ref (G 4 0), .int x0, .int x1])).length) Slot.unset).toArray = ls at hl ⊢
  have hl : lv_has ls 3 [(0, .ref (G 4 0)), (1, .int x0), (2, .int x1)] := hl
  rw [m_Mo_isGate] at hR
  rw [k_Mo_isGate] at hk
  refine lv_aload_n hx hb d_Mo_isGate_0 rfl (lv_at hl 0 rfl) ?_
  refine lv_iload_n hx hb d_Mo_isGate_1 rfl (lv_at hl 1 rfl) ?_
  refine kV hC hB _ lkM_o rfl (c_Mo_isPart τ  x0 (andL hk)) allw_ok mf_Mo_isPart kw_1063 ks_44 kw_1061 ⟨rfl, rfl, Nat.le_of_ble_eq_true rfl, Nat.le_of_ble_eq_true rfl⟩ rfl rfl hl.1 (Nat.le_of_ble_eq_true rfl) d_Mo_isGate_2 ⟨Nat.le_of_ble_eq_true rfl, Nat.le_of_ble_eq_true rfl⟩ (roK fun H locs hB => ?_)
  replace hk := andR hk
  refine lv_if_eq (tgt := 32) hx hb d_Mo_isGate_5 (by decide) (fun c_1 => ?_) (fun c_1 => ?_)
  · rw [if_pos c_1] at hR hk
    refine lv_iconst (v := 0) hx hb d_Mo_isGate_32 (by decide) ?_
    subst hR
    exact rz (b := false) hC hB rfl d_Mo_isGate_33
  · rw [if_neg c_1] at hR hk
    refine lv_iload_n hx hb d_Mo_isGate_8 rfl (lv_at hl 2 rfl) ?_
    refine lv_if_lt (tgt := 32) hx hb d_Mo_isGate_9 (by decide) (fun c_2 => ?_) (fun c_2 => ?_)
    · rw [if_pos c_2] at hR hk
      refine lv_iconst (v := 0) hx hb d_Mo_isGate_32 (by decide) ?_
      subst hR
      exact rz (b := false) hC hB rfl d_Mo_isGate_33
    · rw [if_neg c_2] at hR hk
      refine lv_iload_n hx hb d_Mo_isGate_12 rfl (lv_at hl 2 rfl) ?_
      refine lv_i2l hx hb d_Mo_isGate_13 rfl ?_
      refine lv_aload_n hx hb d_Mo_isGate_14 rfl (lv_at hl 0 rfl) ?_
      refine gt hC hB _ lkM_o rfl i_Mo 1 (by decide) rfl kw_892 rfl d_Mo_isGate_15 ?_
      refine lv_sipush (v := 2162) hx hb d_Mo_isGate_18 (by decide) ?_
      refine lv_iload_n hx hb d_Mo_isGate_21 rfl (lv_at hl 1 rfl) ?_
      refine lv_iadd hx hb d_Mo_isGate_22 ?_
      refine va_lald hx hb hC.2.2.2.2.2.2.2.1.1 hB.1 _ 1 (lkM_l (by decide : 0 < 4)) rfl (of_eq_true (andL hk)) d_Mo_isGate_23 ?_
      replace hk := andR hk
      refine W.lcmp hx hb d_Mo_isGate_24 ?_
      refine lv_if_ge (tgt := 32) hx hb d_Mo_isGate_25 (by decide) (fun c_3 => ?_) (fun c_3 => ?_)
      · rw [if_pos c_3] at hR hk
        refine lv_iconst (v := 0) hx hb d_Mo_isGate_32 (by decide) ?_
        subst hR
        exact rz (b := false) hC hB rfl d_Mo_isGate_33
      · rw [if_neg c_3] at hR hk
        refine lv_iconst (v := 1) hx hb d_Mo_isGate_28 (by decide) ?_
        refine lv_goto (tgt := 33) hx hb d_Mo_isGate_29 (by decide) ?_
        subst hR
        exact rz (b := true) hC hB rfl d_Mo_isGate_33

set_option maxHeartbeats 400000 in
set_option maxRecDepth 100000 in
theorem c_Mo_isVariant  (τ : SM)  (x0 : Int32) (hk : (k_Mo_isVariant τ x0) = True) : CM l y_Mo_isVariant b_Mo_isVariant 2 (some .boolean) { frames := 1, cells := 0, slots := 0, locals := 21 } D (tyL cI cL cQ) N0 N1 [.ref (G 4 0), .int x0] (wsM G cI cL τ rest) (some (.int (bi (m_Mo_isVariant τ x0)))) (fun w => w = wsM G cI cL τ rest) 0 0 := by
  generalize hR : m_Mo_isVariant τ x0 = RES
  refine met_of (own := R_Mo) (by decide) rfl nwl_ok ?_
  intro p e s m below meth c hC hin hB
  have hx := hC.1
  have hb := hC.2.1
  have hl := lv_entry ([.ref (G 4 0), .int x0]) (n := 2) (Nat.le_of_ble_eq_true rfl)
  rw [lg_entry_eq]
  generalize (lg_sl ([.ref (G 4 0), .int x0]) ++ List.replicate (2 - (lg_sl ([.ref (G 4 0), .int x0])).length) Slot.unset).toArray = ls at hl ⊢
  have hl : lv_has ls 2 [(0, .ref (G 4 0)), (1, .int x0)] := hl
  rw [m_Mo_isVariant] at hR
  rw [k_Mo_isVariant] at hk
  refine lv_iload_n hx hb d_Mo_isVariant_0 rfl (lv_at hl 1 rfl) ?_
  refine lv_if_lt (tgt := 17) hx hb d_Mo_isVariant_1 (by decide) (fun c_1 => ?_) (fun c_1 => ?_)
  · rw [if_pos c_1] at hR hk
    refine lv_iconst (v := 0) hx hb d_Mo_isVariant_17 (by decide) ?_
    subst hR
    exact rz (b := false) hC hB rfl d_Mo_isVariant_18
  · rw [if_neg c_1] at hR hk
    refine lv_iload_n hx hb d_Mo_isVariant_4 rfl (lv_at hl 1 rfl) ?_
    refine lv_aload_n hx hb d_Mo_isVariant_5 rfl (lv_at hl 0 rfl) ?_
    refine lv_iconst (v := 3) hx hb d_Mo_isVariant_6 (by decide) ?_
    refine kV hC hB _ lkM_o rfl (c_Mo_count τ  3 (andL hk)) allw_ok mf_Mo_count kw_963 ks_29 kw_961 ⟨rfl, rfl, Nat.le_of_ble_eq_true rfl, Nat.le_of_ble_eq_true rfl⟩ rfl rfl hl.1 (Nat.le_of_ble_eq_true rfl) d_Mo_isVariant_7 ⟨Nat.le_of_ble_eq_true rfl, Nat.le_of_ble_eq_true rfl⟩ (roK fun H locs hB => ?_)
    replace hk := andR hk
    refine lv_icmp_ge (tgt := 17) hx hb d_Mo_isVariant_10 (by decide) (fun c_2 => ?_) (fun c_2 => ?_)
    · rw [if_pos c_2] at hR hk
      refine lv_iconst (v := 0) hx hb d_Mo_isVariant_17 (by decide) ?_
      subst hR
      exact rz (b := false) hC hB rfl d_Mo_isVariant_18
    · rw [if_neg c_2] at hR hk
      refine lv_iconst (v := 1) hx hb d_Mo_isVariant_13 (by decide) ?_
      refine lv_goto (tgt := 18) hx hb d_Mo_isVariant_14 (by decide) ?_
      subst hR
      exact rz (b := true) hC hB rfl d_Mo_isVariant_18

set_option maxHeartbeats 400000 in
set_option maxRecDepth 100000 in
theorem c_Mo_hasName  (τ : SM)  (x0 : Int64) (x1 : Int32) (hk : (k_Mo_hasName τ x0 x1) = True) : CM l y_Mo_hasName b_Mo_hasName 4 (some .boolean) { frames := 0, cells := 0, slots := 0, locals := 0 } D (tyL cI cL cQ) N0 N1 [.ref (G 4 0), .long x0, .int x1] (wsM G cI cL τ rest) (some (.int (bi (m_Mo_hasName τ x0 x1)))) (fun w => w = wsM G cI cL τ rest) 0 0 := by
  generalize hR : m_Mo_hasName τ x0 x1 = RES
  refine met_of (own := R_Mo) (by decide) rfl nwl_ok ?_
  intro p e s m below meth c hC hin hB
  have hx := hC.1
  have hb := hC.2.1
  have hl := lv_entry ([.ref (G 4 0), .long x0, .int x1]) (n := 4) (Nat.le_of_ble_eq_true rfl)
  rw [lg_entry_eq]
  generalize (lg_sl ([.ref (G 4 0), .long x0, .int x1]) ++ List.replicate (4 - (lg_sl ([.ref (G 4 0), .long x0, .int x1])).length) Slot.unset).toArray = ls at hl ⊢
  have hl : lv_has ls 4 [(0, .ref (G 4 0)), (1, .long x0), (3, .int x1)] := hl
  rw [m_Mo_hasName] at hR
  rw [k_Mo_hasName] at hk
  refine lv_aload_n hx hb d_Mo_hasName_0 rfl (lv_at hl 0 rfl) ?_
  refine gt hC hB _ lkM_o rfl i_Mo 1 (by decide) rfl kw_892 rfl d_Mo_hasName_1 ?_
  refine lv_bipush (v := 8) hx hb d_Mo_hasName_4 (by decide) ?_
  refine lv_lload_n hx hb d_Mo_hasName_6 rfl (lv_at hl 1 rfl) ?_
  refine lv_l2i hx hb d_Mo_hasName_7 rfl ?_
  refine lv_iadd hx hb d_Mo_hasName_8 ?_
  refine va_lald hx hb hC.2.2.2.2.2.2.2.1.1 hB.1 _ 1 (lkM_l (by decide : 0 < 4)) rfl (of_eq_true (andL hk)) d_Mo_hasName_9 ?_
  replace hk := andR hk
  refine lv_iload_n hx hb d_Mo_hasName_10 rfl (lv_at hl 2 rfl) ?_
  refine lv_lshr hx hb d_Mo_hasName_11 rfl ?_
  refine lv_lconst (v := 1) hx hb d_Mo_hasName_12 (by decide) ?_
  refine lv_land hx hb d_Mo_hasName_13 ?_
  refine lv_lconst (v := 1) hx hb d_Mo_hasName_14 (by decide) ?_
  refine W.lcmp hx hb d_Mo_hasName_15 ?_
  refine lv_if_ne (tgt := 23) hx hb d_Mo_hasName_16 (by decide) (fun c_1 => ?_) (fun c_1 => ?_)
  · rw [if_neg c_1] at hR hk
    refine lv_iconst (v := 0) hx hb d_Mo_hasName_23 (by decide) ?_
    subst hR
    exact rz (b := false) hC hB rfl d_Mo_hasName_24
  · rw [if_pos c_1] at hR hk
    refine lv_iconst (v := 1) hx hb d_Mo_hasName_19 (by decide) ?_
    refine lv_goto (tgt := 24) hx hb d_Mo_hasName_20 (by decide) ?_
    subst hR
    exact rz (b := true) hC hB rfl d_Mo_hasName_24

set_option maxHeartbeats 400000 in
set_option maxRecDepth 100000 in
theorem w_Mo_next_6 {p : Program} {e : Env} {s : State} {m : MethodId} {args : Array Value} {below : List Frame} {meth : Method} {c : Code} {RES : Int32}  (τ : SM)  (hC : cx D classes (tyL cI cL cQ) NWL ALLW N1 p s m args meth c b_Mo_next 6 (some .int) R_Mo) :
    ∀ (n : Nat) (v1 : Int32) (v2 : Int64) (v4 : Int32) (v5 : Int32), upI n (m_Mo_count τ 1) v5 → lp_Mo_next_6 n τ  v1 v2 v4 v5 = RES → (kl_Mo_next_6 n τ  v1 v2 v4 v5) = True → ∀ (H : Heap) (locs : List Loc), bd D classes N0 N1 (wsM G cI cL τ rest) s H locs → ∀ (ls : Array Slot), lv_has ls 6 [(0, .ref (G 4 0)), (1, .int v1), (2, .long v2), (4, .int v4), (5, .int v5)] → W p l e { frames := 1, cells := 0, slots := 0, locals := 21 } s m args below meth c H locs 0 0 (MQ below (qx D classes N0 N1 (some (.int RES)) (fun w => w = wsM G cI cL τ rest)) args s 0 0 (ga N1)) (F0 m 6 ls []) := by
  have hx := hC.1
  have hb := hC.2.1
  intro n
  induction n with
  | zero =>
    intro v1 v2 v4 v5 hI
    exact absurd hI up_zero
  | succ n ih =>
    intro v1 v2 v4 v5 hI hR hk H locs hB ls hl
    rw [lp_Mo_next_6] at hR
    rw [kl_Mo_next_6] at hk
    refine lv_iload hx hb d_Mo_next_6 (lv_at hl 4 rfl) ?_
    refine lv_aload_n hx hb d_Mo_next_8 rfl (lv_at hl 0 rfl) ?_
    refine lv_iconst (v := 1) hx hb d_Mo_next_9 (by decide) ?_
    refine kV hC hB _ lkM_o rfl (c_Mo_count τ  1 (andL hk)) allw_ok mf_Mo_count kw_963 ks_29 kw_961 ⟨rfl, rfl, Nat.le_of_ble_eq_true rfl, Nat.le_of_ble_eq_true rfl⟩ rfl rfl hl.1 (Nat.le_of_ble_eq_true rfl) d_Mo_next_10 ⟨Nat.le_of_ble_eq_true rfl, Nat.le_of_ble_eq_true rfl⟩ (roK fun H locs hB => ?_)
    replace hk := andR hk
    refine lv_icmp_ge (tgt := 93) hx hb d_Mo_next_13 (by decide) (fun c_1 => ?_) (fun c_1 => ?_)
    · rw [if_pos c_1] at hR hk
      refine lv_iload hx hb d_Mo_next_93 (lv_at hl 3 rfl) ?_
      subst hR
      exact ri hC hB rfl d_Mo_next_95
    · rw [if_neg c_1] at hR hk
      refine lv_aload_n hx hb d_Mo_next_16 rfl (lv_at hl 0 rfl) ?_
      refine gt hC hB _ lkM_o rfl i_Mo 1 (by decide) rfl kw_892 rfl d_Mo_next_17 ?_
      refine lv_sipush (v := 152) hx hb d_Mo_next_20 (by decide) ?_
      refine lv_iload hx hb d_Mo_next_23 (lv_at hl 4 rfl) ?_
      refine lv_iadd hx hb d_Mo_next_25 ?_
      refine va_lald hx hb hC.2.2.2.2.2.2.2.1.1 hB.1 _ 1 (lkM_l (by decide : 0 < 4)) rfl (of_eq_true (andL hk)) d_Mo_next_26 ?_
      replace hk := andR hk
      refine lv_lload_n hx hb d_Mo_next_27 rfl (lv_at hl 2 rfl) ?_
      refine W.lcmp hx hb d_Mo_next_28 ?_
      refine lv_if_le (tgt := 87) hx hb d_Mo_next_29 (by decide) (fun c_2 => ?_) (fun c_2 => ?_)
      · rw [if_pos c_2] at hR hk
        refine lv_iinc (v := (v5 + 1)) (lv' := [(5, .int (v5 + 1)), (0, .ref (G 4 0)), (1, .int v1), (2, .long v2), (4, .int v4)]) hx hb d_Mo_next_87 hl (k := 4) rfl rfl (by decide) rfl (fun ls hl => ?_)
        refine lv_goto (tgt := 6) hx hb d_Mo_next_90 (by decide) ?_
        exact ih v1 v2 v4 (v5 + 1) (up_step hI (by assumption)) hR hk _ _ hB ls (lv_sub hl [1, 2, 3, 4, 0] rfl)
      · rw [if_neg c_2] at hR hk
        refine lv_aload_n hx hb d_Mo_next_32 rfl (lv_at hl 0 rfl) ?_
        refine gt hC hB _ lkM_o rfl i_Mo 1 (by decide) rfl kw_892 rfl d_Mo_next_33 ?_
        refine lv_bipush (v := 32) hx hb d_Mo_next_36 (by decide) ?_
        refine lv_iload hx hb d_Mo_next_38 (lv_at hl 4 rfl) ?_
        refine lv_iadd hx hb d_Mo_next_40 ?_
        refine va_lald hx hb hC.2.2.2.2.2.2.2.1.1 hB.1 _ 1 (lkM_l (by decide : 0 < 4)) rfl (of_eq_true (andL hk)) d_Mo_next_41 ?_
        replace hk := andR hk
        refine lv_iload_n hx hb d_Mo_next_42 rfl (lv_at hl 1 rfl) ?_
        refine lv_i2l hx hb d_Mo_next_43 rfl ?_
        refine W.lcmp hx hb d_Mo_next_44 ?_
        refine lv_if_eq (tgt := 51) hx hb d_Mo_next_45 (by decide) (fun c_3 => ?_) (fun c_3 => ?_)
        · rw [if_pos c_3] at hR hk
          refine lv_iload hx hb d_Mo_next_51 (lv_at hl 3 rfl) ?_
          refine lv_iconst (v := (-1)) hx hb d_Mo_next_53 (by decide) ?_
          refine lv_icmp_eq (tgt := 83) hx hb d_Mo_next_54 (by decide) (fun c_4 => ?_) (fun c_4 => ?_)
          · rw [if_pos c_4] at hR hk
            refine lv_iload hx hb d_Mo_next_83 (lv_at hl 4 rfl) ?_
            refine lv_istore (lv' := [(4, .int v5), (0, .ref (G 4 0)), (1, .int v1), (2, .long v2), (5, .int v5)]) hx hb d_Mo_next_85 hl (by decide) rfl (fun ls hl => ?_)
            refine lv_iinc (v := (v5 + 1)) (lv' := [(5, .int (v5 + 1)), (4, .int v5), (0, .ref (G 4 0)), (1, .int v1), (2, .long v2)]) hx hb d_Mo_next_87 hl (k := 4) rfl rfl (by decide) rfl (fun ls hl => ?_)
            refine lv_goto (tgt := 6) hx hb d_Mo_next_90 (by decide) ?_
            exact ih v1 v2 v5 (v5 + 1) (up_step hI (by assumption)) hR hk _ _ hB ls (lv_sub hl [2, 3, 4, 1, 0] rfl)
          · rw [if_neg c_4] at hR hk
            refine lv_aload_n hx hb d_Mo_next_57 rfl (lv_at hl 0 rfl) ?_
            refine gt hC hB _ lkM_o rfl i_Mo 1 (by decide) rfl kw_892 rfl d_Mo_next_58 ?_
            refine lv_sipush (v := 152) hx hb d_Mo_next_61 (by decide) ?_
            refine lv_iload hx hb d_Mo_next_64 (lv_at hl 4 rfl) ?_
            refine lv_iadd hx hb d_Mo_next_66 ?_
            refine va_lald hx hb hC.2.2.2.2.2.2.2.1.1 hB.1 _ 1 (lkM_l (by decide : 0 < 4)) rfl (of_eq_true (andL hk)) d_Mo_next_67 ?_
            replace hk := andR hk
            refine lv_aload_n hx hb d_Mo_next_68 rfl (lv_at hl 0 rfl) ?_
            refine gt hC hB _ lkM_o rfl i_Mo 1 (by decide) rfl kw_892 rfl d_Mo_next_69 ?_
            refine lv_sipush (v := 152) hx hb d_Mo_next_72 (by decide) ?_
            refine lv_iload hx hb d_Mo_next_75 (lv_at hl 3 rfl) ?_
            refine lv_iadd hx hb d_Mo_next_77 ?_
            refine va_lald hx hb hC.2.2.2.2.2.2.2.1.1 hB.1 _ 1 (lkM_l (by decide : 0 < 4)) rfl (of_eq_true (andL hk)) d_Mo_next_78 ?_
            replace hk := andR hk
            refine W.lcmp hx hb d_Mo_next_79 ?_
            refine lv_if_ge (tgt := 87) hx hb d_Mo_next_80 (by decide) (fun c_5 => ?_) (fun c_5 => ?_)
            · rw [if_pos c_5] at hR hk
              refine lv_iinc (v := (v5 + 1)) (lv' := [(5, .int (v5 + 1)), (0, .ref (G 4 0)), (1, .int v1), (2, .long v2), (4, .int v4)]) hx hb d_Mo_next_87 hl (k := 4) rfl rfl (by decide) rfl (fun ls hl => ?_)
              refine lv_goto (tgt := 6) hx hb d_Mo_next_90 (by decide) ?_
              exact ih v1 v2 v4 (v5 + 1) (up_step hI (by assumption)) hR hk _ _ hB ls (lv_sub hl [1, 2, 3, 4, 0] rfl)
            · rw [if_neg c_5] at hR hk
              refine lv_iload hx hb d_Mo_next_83 (lv_at hl 4 rfl) ?_
              refine lv_istore (lv' := [(4, .int v5), (0, .ref (G 4 0)), (1, .int v1), (2, .long v2), (5, .int v5)]) hx hb d_Mo_next_85 hl (by decide) rfl (fun ls hl => ?_)
              refine lv_iinc (v := (v5 + 1)) (lv' := [(5, .int (v5 + 1)), (4, .int v5), (0, .ref (G 4 0)), (1, .int v1), (2, .long v2)]) hx hb d_Mo_next_87 hl (k := 4) rfl rfl (by decide) rfl (fun ls hl => ?_)
              refine lv_goto (tgt := 6) hx hb d_Mo_next_90 (by decide) ?_
              exact ih v1 v2 v5 (v5 + 1) (up_step hI (by assumption)) hR hk _ _ hB ls (lv_sub hl [2, 3, 4, 1, 0] rfl)
        · rw [if_neg c_3] at hR hk
          refine lv_goto (tgt := 87) hx hb d_Mo_next_48 (by decide) ?_
          refine lv_iinc (v := (v5 + 1)) (lv' := [(5, .int (v5 + 1)), (0, .ref (G 4 0)), (1, .int v1), (2, .long v2), (4, .int v4)]) hx hb d_Mo_next_87 hl (k := 4) rfl rfl (by decide) rfl (fun ls hl => ?_)
          refine lv_goto (tgt := 6) hx hb d_Mo_next_90 (by decide) ?_
          exact ih v1 v2 v4 (v5 + 1) (up_step hI (by assumption)) hR hk _ _ hB ls (lv_sub hl [1, 2, 3, 4, 0] rfl)

set_option maxHeartbeats 400000 in
set_option maxRecDepth 100000 in
theorem c_Mo_next  (τ : SM)  (x0 : Int32) (x1 : Int64) (hk : (k_Mo_next τ x0 x1) = True) : CM l y_Mo_next b_Mo_next 6 (some .int) { frames := 1, cells := 0, slots := 0, locals := 21 } D (tyL cI cL cQ) N0 N1 [.ref (G 4 0), .int x0, .long x1] (wsM G cI cL τ rest) (some (.int (m_Mo_next τ x0 x1))) (fun w => w = wsM G cI cL τ rest) 0 0 := by
  generalize hR : m_Mo_next τ x0 x1 = RES
  refine met_of (own := R_Mo) (by decide) rfl nwl_ok ?_
  intro p e s m below meth c hC hin hB
  have hx := hC.1
  have hb := hC.2.1
  have hl := lv_entry ([.ref (G 4 0), .int x0, .long x1]) (n := 6) (Nat.le_of_ble_eq_true rfl)
  rw [lg_entry_eq]
  generalize (lg_sl ([.ref (G 4 0), .int x0, .long x1]) ++ List.replicate (6 - (lg_sl ([.ref (G 4 0), .int x0, .long x1])).length) Slot.unset).toArray = ls at hl ⊢
  have hl : lv_has ls 6 [(0, .ref (G 4 0)), (1, .int x0), (2, .long x1)] := hl
  rw [m_Mo_next] at hR
  rw [k_Mo_next] at hk
  refine lv_iconst (v := (-1)) hx hb d_Mo_next_0 (by decide) ?_
  refine lv_istore (lv' := [(4, .int (-1)), (0, .ref (G 4 0)), (1, .int x0), (2, .long x1)]) hx hb d_Mo_next_1 hl (by decide) rfl (fun ls hl => ?_)
  refine lv_iconst (v := 0) hx hb d_Mo_next_3 (by decide) ?_
  refine lv_istore (lv' := [(5, .int 0), (4, .int (-1)), (0, .ref (G 4 0)), (1, .int x0), (2, .long x1)]) hx hb d_Mo_next_4 hl (by decide) rfl (fun ls hl => ?_)
  exact w_Mo_next_6  τ  hC ((m_Mo_count τ 1).toNatClampNeg + 1) x0 x1 (-1) 0 (up_init _) hR hk _ _ hB ls (lv_sub hl [2, 3, 4, 1, 0] rfl)

set_option maxHeartbeats 400000 in
set_option maxRecDepth 100000 in
theorem w_Mo_placementsOn_4 {p : Program} {e : Env} {s : State} {m : MethodId} {args : Array Value} {below : List Frame} {meth : Method} {c : Code} {RES : Int32}  (τ : SM)  (hC : cx D classes (tyL cI cL cQ) NWL ALLW N1 p s m args meth c b_Mo_placementsOn 4 (some .int) R_Mo) :
    ∀ (n : Nat) (v1 : Int32) (v2 : Int32) (v3 : Int32), upI n (m_Mo_count τ 1) v3 → lp_Mo_placementsOn_4 n τ  v1 v2 v3 = RES → (kl_Mo_placementsOn_4 n τ  v1 v2 v3) = True → ∀ (H : Heap) (locs : List Loc), bd D classes N0 N1 (wsM G cI cL τ rest) s H locs → ∀ (ls : Array Slot), lv_has ls 4 [(0, .ref (G 4 0)), (1, .int v1), (2, .int v2), (3, .int v3)] → W p l e { frames := 1, cells := 0, slots := 0, locals := 21 } s m args below meth c H locs 0 0 (MQ below (qx D classes N0 N1 (some (.int RES)) (fun w => w = wsM G cI cL τ rest)) args s 0 0 (ga N1)) (F0 m 4 ls []) := by
  have hx := hC.1
  have hb := hC.2.1
  intro n
  induction n with
  | zero =>
    intro v1 v2 v3 hI
    exact absurd hI up_zero
  | succ n ih =>
    intro v1 v2 v3 hI hR hk H locs hB ls hl
    rw [lp_Mo_placementsOn_4] at hR
    rw [kl_Mo_placementsOn_4] at hk
    refine lv_iload_n hx hb d_Mo_placementsOn_4 rfl (lv_at hl 3 rfl) ?_
    refine lv_aload_n hx hb d_Mo_placementsOn_5 rfl (lv_at hl 0 rfl) ?_
    refine lv_iconst (v := 1) hx hb d_Mo_placementsOn_6 (by decide) ?_
    refine kV hC hB _ lkM_o rfl (c_Mo_count τ  1 (andL hk)) allw_ok mf_Mo_count kw_963 ks_29 kw_961 ⟨rfl, rfl, Nat.le_of_ble_eq_true rfl, Nat.le_of_ble_eq_true rfl⟩ rfl rfl hl.1 (Nat.le_of_ble_eq_true rfl) d_Mo_placementsOn_7 ⟨Nat.le_of_ble_eq_true rfl, Nat.le_of_ble_eq_true rfl⟩ (roK fun H locs hB => ?_)
    replace hk := andR hk
    refine lv_icmp_ge (tgt := 57) hx hb d_Mo_placementsOn_10 (by decide) (fun c_1 => ?_) (fun c_1 => ?_)
    · rw [if_pos c_1] at hR hk
      refine lv_iload_n hx hb d_Mo_placementsOn_57 rfl (lv_at hl 2 rfl) ?_
      subst hR
      exact ri hC hB rfl d_Mo_placementsOn_58
    · rw [if_neg c_1] at hR hk
      refine lv_iload_n hx hb d_Mo_placementsOn_13 rfl (lv_at hl 2 rfl) ?_
      refine lv_aload_n hx hb d_Mo_placementsOn_14 rfl (lv_at hl 0 rfl) ?_
      refine gt hC hB _ lkM_o rfl i_Mo 1 (by decide) rfl kw_892 rfl d_Mo_placementsOn_15 ?_
      refine lv_sipush (v := 152) hx hb d_Mo_placementsOn_18 (by decide) ?_
      refine lv_iload_n hx hb d_Mo_placementsOn_21 rfl (lv_at hl 3 rfl) ?_
      refine lv_iadd hx hb d_Mo_placementsOn_22 ?_
      refine va_lald hx hb hC.2.2.2.2.2.2.2.1.1 hB.1 _ 1 (lkM_l (by decide : 0 < 4)) rfl (of_eq_true (andL hk)) d_Mo_placementsOn_23 ?_
      replace hk := andR hk
      refine lv_lconst (v := 0) hx hb d_Mo_placementsOn_24 (by decide) ?_
      refine W.lcmp hx hb d_Mo_placementsOn_25 ?_
      refine lv_if_lt (tgt := 48) hx hb d_Mo_placementsOn_26 (by decide) (fun c_2 => ?_) (fun c_2 => ?_)
      · rw [if_pos c_2] at hR hk
        refine lv_iconst (v := 0) hx hb d_Mo_placementsOn_48 (by decide) ?_
        refine lv_iadd hx hb d_Mo_placementsOn_49 ?_
        refine lv_istore_n (lv' := [(2, .int (v2 + 0)), (0, .ref (G 4 0)), (1, .int v1), (3, .int v3)]) hx hb d_Mo_placementsOn_50 rfl hl (by decide) rfl (fun ls hl => ?_)
        refine lv_iinc (v := (v3 + 1)) (lv' := [(3, .int (v3 + 1)), (2, .int (v2 + 0)), (0, .ref (G 4 0)), (1, .int v1)]) hx hb d_Mo_placementsOn_51 hl (k := 3) rfl rfl (by decide) rfl (fun ls hl => ?_)
        refine lv_goto (tgt := 4) hx hb d_Mo_placementsOn_54 (by decide) ?_
        exact ih v1 (v2 + 0) (v3 + 1) (up_step hI (by assumption)) hR hk _ _ hB ls (lv_sub hl [2, 3, 1, 0] rfl)
      · rw [if_neg c_2] at hR hk
        refine lv_aload_n hx hb d_Mo_placementsOn_29 rfl (lv_at hl 0 rfl) ?_
        refine gt hC hB _ lkM_o rfl i_Mo 1 (by decide) rfl kw_892 rfl d_Mo_placementsOn_30 ?_
        refine lv_bipush (v := 32) hx hb d_Mo_placementsOn_33 (by decide) ?_
        refine lv_iload_n hx hb d_Mo_placementsOn_35 rfl (lv_at hl 3 rfl) ?_
        refine lv_iadd hx hb d_Mo_placementsOn_36 ?_
        refine va_lald hx hb hC.2.2.2.2.2.2.2.1.1 hB.1 _ 1 (lkM_l (by decide : 0 < 4)) rfl (of_eq_true (andL hk)) d_Mo_placementsOn_37 ?_
        replace hk := andR hk
        refine lv_iload_n hx hb d_Mo_placementsOn_38 rfl (lv_at hl 1 rfl) ?_
        refine lv_i2l hx hb d_Mo_placementsOn_39 rfl ?_
        refine W.lcmp hx hb d_Mo_placementsOn_40 ?_
        refine lv_if_ne (tgt := 48) hx hb d_Mo_placementsOn_41 (by decide) (fun c_3 => ?_) (fun c_3 => ?_)
        · rw [if_neg c_3] at hR hk
          refine lv_iconst (v := 0) hx hb d_Mo_placementsOn_48 (by decide) ?_
          refine lv_iadd hx hb d_Mo_placementsOn_49 ?_
          refine lv_istore_n (lv' := [(2, .int (v2 + 0)), (0, .ref (G 4 0)), (1, .int v1), (3, .int v3)]) hx hb d_Mo_placementsOn_50 rfl hl (by decide) rfl (fun ls hl => ?_)
          refine lv_iinc (v := (v3 + 1)) (lv' := [(3, .int (v3 + 1)), (2, .int (v2 + 0)), (0, .ref (G 4 0)), (1, .int v1)]) hx hb d_Mo_placementsOn_51 hl (k := 3) rfl rfl (by decide) rfl (fun ls hl => ?_)
          refine lv_goto (tgt := 4) hx hb d_Mo_placementsOn_54 (by decide) ?_
          exact ih v1 (v2 + 0) (v3 + 1) (up_step hI (by assumption)) hR hk _ _ hB ls (lv_sub hl [2, 3, 1, 0] rfl)
        · rw [if_pos c_3] at hR hk
          refine lv_iconst (v := 1) hx hb d_Mo_placementsOn_44 (by decide) ?_
          refine lv_goto (tgt := 49) hx hb d_Mo_placementsOn_45 (by decide) ?_
          refine lv_iadd hx hb d_Mo_placementsOn_49 ?_
          refine lv_istore_n (lv' := [(2, .int (v2 + 1)), (0, .ref (G 4 0)), (1, .int v1), (3, .int v3)]) hx hb d_Mo_placementsOn_50 rfl hl (by decide) rfl (fun ls hl => ?_)
          refine lv_iinc (v := (v3 + 1)) (lv' := [(3, .int (v3 + 1)), (2, .int (v2 + 1)), (0, .ref (G 4 0)), (1, .int v1)]) hx hb d_Mo_placementsOn_51 hl (k := 3) rfl rfl (by decide) rfl (fun ls hl => ?_)
          refine lv_goto (tgt := 4) hx hb d_Mo_placementsOn_54 (by decide) ?_
          exact ih v1 (v2 + 1) (v3 + 1) (up_step hI (by assumption)) hR hk _ _ hB ls (lv_sub hl [2, 3, 1, 0] rfl)

set_option maxHeartbeats 400000 in
set_option maxRecDepth 100000 in
theorem c_Mo_placementsOn  (τ : SM)  (x0 : Int32) (hk : (k_Mo_placementsOn τ x0) = True) : CM l y_Mo_placementsOn b_Mo_placementsOn 4 (some .int) { frames := 1, cells := 0, slots := 0, locals := 21 } D (tyL cI cL cQ) N0 N1 [.ref (G 4 0), .int x0] (wsM G cI cL τ rest) (some (.int (m_Mo_placementsOn τ x0))) (fun w => w = wsM G cI cL τ rest) 0 0 := by
  generalize hR : m_Mo_placementsOn τ x0 = RES
  refine met_of (own := R_Mo) (by decide) rfl nwl_ok ?_
  intro p e s m below meth c hC hin hB
  have hx := hC.1
  have hb := hC.2.1
  have hl := lv_entry ([.ref (G 4 0), .int x0]) (n := 4) (Nat.le_of_ble_eq_true rfl)
  rw [lg_entry_eq]
  generalize (lg_sl ([.ref (G 4 0), .int x0]) ++ List.replicate (4 - (lg_sl ([.ref (G 4 0), .int x0])).length) Slot.unset).toArray = ls at hl ⊢
  have hl : lv_has ls 4 [(0, .ref (G 4 0)), (1, .int x0)] := hl
  rw [m_Mo_placementsOn] at hR
  rw [k_Mo_placementsOn] at hk
  refine lv_iconst (v := 0) hx hb d_Mo_placementsOn_0 (by decide) ?_
  refine lv_istore_n (lv' := [(2, .int 0), (0, .ref (G 4 0)), (1, .int x0)]) hx hb d_Mo_placementsOn_1 rfl hl (by decide) rfl (fun ls hl => ?_)
  refine lv_iconst (v := 0) hx hb d_Mo_placementsOn_2 (by decide) ?_
  refine lv_istore_n (lv' := [(3, .int 0), (2, .int 0), (0, .ref (G 4 0)), (1, .int x0)]) hx hb d_Mo_placementsOn_3 rfl hl (by decide) rfl (fun ls hl => ?_)
  exact w_Mo_placementsOn_4  τ  hC ((m_Mo_count τ 1).toNatClampNeg + 1) x0 0 0 (up_init _) hR hk _ _ hB ls (lv_sub hl [2, 3, 1, 0] rfl)

set_option maxHeartbeats 400000 in
set_option maxRecDepth 100000 in
theorem w_Mo_gatesOn_4 {p : Program} {e : Env} {s : State} {m : MethodId} {args : Array Value} {below : List Frame} {meth : Method} {c : Code} {RES : Int32}  (τ : SM)  (hC : cx D classes (tyL cI cL cQ) NWL ALLW N1 p s m args meth c b_Mo_gatesOn 4 (some .int) R_Mo) :
    ∀ (n : Nat) (v1 : Int32) (v2 : Int32) (v3 : Int32), upI n (8 * m_Mo_count τ 2) v3 → lp_Mo_gatesOn_4 n τ  v1 v2 v3 = RES → (kl_Mo_gatesOn_4 n τ  v1 v2 v3) = True → ∀ (H : Heap) (locs : List Loc), bd D classes N0 N1 (wsM G cI cL τ rest) s H locs → ∀ (ls : Array Slot), lv_has ls 4 [(0, .ref (G 4 0)), (1, .int v1), (2, .int v2), (3, .int v3)] → W p l e { frames := 1, cells := 0, slots := 0, locals := 21 } s m args below meth c H locs 0 0 (MQ below (qx D classes N0 N1 (some (.int RES)) (fun w => w = wsM G cI cL τ rest)) args s 0 0 (ga N1)) (F0 m 4 ls []) := by
  have hx := hC.1
  have hb := hC.2.1
  intro n
  induction n with
  | zero =>
    intro v1 v2 v3 hI
    exact absurd hI up_zero
  | succ n ih =>
    intro v1 v2 v3 hI hR hk H locs hB ls hl
    rw [lp_Mo_gatesOn_4] at hR
    rw [kl_Mo_gatesOn_4] at hk
    refine lv_iload_n hx hb d_Mo_gatesOn_4 rfl (lv_at hl 3 rfl) ?_
    refine lv_bipush (v := 8) hx hb d_Mo_gatesOn_5 (by decide) ?_
    refine lv_aload_n hx hb d_Mo_gatesOn_7 rfl (lv_at hl 0 rfl) ?_
    refine lv_iconst (v := 2) hx hb d_Mo_gatesOn_8 (by decide) ?_
    refine kV hC hB _ lkM_o rfl (c_Mo_count τ  2 (andL hk)) allw_ok mf_Mo_count kw_963 ks_29 kw_961 ⟨rfl, rfl, Nat.le_of_ble_eq_true rfl, Nat.le_of_ble_eq_true rfl⟩ rfl rfl hl.1 (Nat.le_of_ble_eq_true rfl) d_Mo_gatesOn_9 ⟨Nat.le_of_ble_eq_true rfl, Nat.le_of_ble_eq_true rfl⟩ (roK fun H locs hB => ?_)
    replace hk := andR hk
    refine lv_imul hx hb d_Mo_gatesOn_12 ?_
    refine lv_icmp_ge (tgt := 48) hx hb d_Mo_gatesOn_13 (by decide) (fun c_1 => ?_) (fun c_1 => ?_)
    · rw [if_pos c_1] at hR hk
      refine lv_iload_n hx hb d_Mo_gatesOn_48 rfl (lv_at hl 2 rfl) ?_
      subst hR
      exact ri hC hB rfl d_Mo_gatesOn_49
    · rw [if_neg c_1] at hR hk
      refine lv_iload_n hx hb d_Mo_gatesOn_16 rfl (lv_at hl 2 rfl) ?_
      refine lv_aload_n hx hb d_Mo_gatesOn_17 rfl (lv_at hl 0 rfl) ?_
      refine gt hC hB _ lkM_o rfl i_Mo 1 (by decide) rfl kw_892 rfl d_Mo_gatesOn_18 ?_
      refine lv_sipush (v := 2192) hx hb d_Mo_gatesOn_21 (by decide) ?_
      refine lv_iload_n hx hb d_Mo_gatesOn_24 rfl (lv_at hl 3 rfl) ?_
      refine lv_iadd hx hb d_Mo_gatesOn_25 ?_
      refine va_lald hx hb hC.2.2.2.2.2.2.2.1.1 hB.1 _ 1 (lkM_l (by decide : 0 < 4)) rfl (of_eq_true (andL hk)) d_Mo_gatesOn_26 ?_
      replace hk := andR hk
      refine lv_iload_n hx hb d_Mo_gatesOn_27 rfl (lv_at hl 1 rfl) ?_
      refine lv_i2l hx hb d_Mo_gatesOn_28 rfl ?_
      refine lv_lconst (v := 1) hx hb d_Mo_gatesOn_29 (by decide) ?_
      refine lv_ladd hx hb d_Mo_gatesOn_30 ?_
      refine W.lcmp hx hb d_Mo_gatesOn_31 ?_
      refine lv_if_ne (tgt := 39) hx hb d_Mo_gatesOn_32 (by decide) (fun c_2 => ?_) (fun c_2 => ?_)
      · rw [if_neg c_2] at hR hk
        refine lv_iconst (v := 0) hx hb d_Mo_gatesOn_39 (by decide) ?_
        refine lv_iadd hx hb d_Mo_gatesOn_40 ?_
        refine lv_istore_n (lv' := [(2, .int (v2 + 0)), (0, .ref (G 4 0)), (1, .int v1), (3, .int v3)]) hx hb d_Mo_gatesOn_41 rfl hl (by decide) rfl (fun ls hl => ?_)
        refine lv_iinc (v := (v3 + 1)) (lv' := [(3, .int (v3 + 1)), (2, .int (v2 + 0)), (0, .ref (G 4 0)), (1, .int v1)]) hx hb d_Mo_gatesOn_42 hl (k := 3) rfl rfl (by decide) rfl (fun ls hl => ?_)
        refine lv_goto (tgt := 4) hx hb d_Mo_gatesOn_45 (by decide) ?_
        exact ih v1 (v2 + 0) (v3 + 1) (up_step hI (by assumption)) hR hk _ _ hB ls (lv_sub hl [2, 3, 1, 0] rfl)
      · rw [if_pos c_2] at hR hk
        refine lv_iconst (v := 1) hx hb d_Mo_gatesOn_35 (by decide) ?_
        refine lv_goto (tgt := 40) hx hb d_Mo_gatesOn_36 (by decide) ?_
        refine lv_iadd hx hb d_Mo_gatesOn_40 ?_
        refine lv_istore_n (lv' := [(2, .int (v2 + 1)), (0, .ref (G 4 0)), (1, .int v1), (3, .int v3)]) hx hb d_Mo_gatesOn_41 rfl hl (by decide) rfl (fun ls hl => ?_)
        refine lv_iinc (v := (v3 + 1)) (lv' := [(3, .int (v3 + 1)), (2, .int (v2 + 1)), (0, .ref (G 4 0)), (1, .int v1)]) hx hb d_Mo_gatesOn_42 hl (k := 3) rfl rfl (by decide) rfl (fun ls hl => ?_)
        refine lv_goto (tgt := 4) hx hb d_Mo_gatesOn_45 (by decide) ?_
        exact ih v1 (v2 + 1) (v3 + 1) (up_step hI (by assumption)) hR hk _ _ hB ls (lv_sub hl [2, 3, 1, 0] rfl)

set_option maxHeartbeats 400000 in
set_option maxRecDepth 100000 in
theorem c_Mo_gatesOn  (τ : SM)  (x0 : Int32) (hk : (k_Mo_gatesOn τ x0) = True) : CM l y_Mo_gatesOn b_Mo_gatesOn 4 (some .int) { frames := 1, cells := 0, slots := 0, locals := 21 } D (tyL cI cL cQ) N0 N1 [.ref (G 4 0), .int x0] (wsM G cI cL τ rest) (some (.int (m_Mo_gatesOn τ x0))) (fun w => w = wsM G cI cL τ rest) 0 0 := by
  generalize hR : m_Mo_gatesOn τ x0 = RES
  refine met_of (own := R_Mo) (by decide) rfl nwl_ok ?_
  intro p e s m below meth c hC hin hB
  have hx := hC.1
  have hb := hC.2.1
  have hl := lv_entry ([.ref (G 4 0), .int x0]) (n := 4) (Nat.le_of_ble_eq_true rfl)
  rw [lg_entry_eq]
  generalize (lg_sl ([.ref (G 4 0), .int x0]) ++ List.replicate (4 - (lg_sl ([.ref (G 4 0), .int x0])).length) Slot.unset).toArray = ls at hl ⊢
  have hl : lv_has ls 4 [(0, .ref (G 4 0)), (1, .int x0)] := hl
  rw [m_Mo_gatesOn] at hR
  rw [k_Mo_gatesOn] at hk
  refine lv_iconst (v := 0) hx hb d_Mo_gatesOn_0 (by decide) ?_
  refine lv_istore_n (lv' := [(2, .int 0), (0, .ref (G 4 0)), (1, .int x0)]) hx hb d_Mo_gatesOn_1 rfl hl (by decide) rfl (fun ls hl => ?_)
  refine lv_iconst (v := 0) hx hb d_Mo_gatesOn_2 (by decide) ?_
  refine lv_istore_n (lv' := [(3, .int 0), (2, .int 0), (0, .ref (G 4 0)), (1, .int x0)]) hx hb d_Mo_gatesOn_3 rfl hl (by decide) rfl (fun ls hl => ?_)
  exact w_Mo_gatesOn_4  τ  hC ((8 * m_Mo_count τ 2).toNatClampNeg + 1) x0 0 0 (up_init _) hR hk _ _ hB ls (lv_sub hl [2, 3, 1, 0] rfl)

set_option maxHeartbeats 400000 in
set_option maxRecDepth 100000 in
theorem w_Mo_nextGate_6 {p : Program} {e : Env} {s : State} {m : MethodId} {args : Array Value} {below : List Frame} {meth : Method} {c : Code} {RES : Int32}  (τ : SM)  (hC : cx D classes (tyL cI cL cQ) NWL ALLW N1 p s m args meth c b_Mo_nextGate 6 (some .int) R_Mo) :
    ∀ (n : Nat) (v1 : Int32) (v2 : Int64) (v4 : Int32) (v5 : Int32), upI n (8 * m_Mo_count τ 2) v5 → lp_Mo_nextGate_6 n τ  v1 v2 v4 v5 = RES → (kl_Mo_nextGate_6 n τ  v1 v2 v4 v5) = True → ∀ (H : Heap) (locs : List Loc), bd D classes N0 N1 (wsM G cI cL τ rest) s H locs → ∀ (ls : Array Slot), lv_has ls 6 [(0, .ref (G 4 0)), (1, .int v1), (2, .long v2), (4, .int v4), (5, .int v5)] → W p l e { frames := 1, cells := 0, slots := 0, locals := 21 } s m args below meth c H locs 0 0 (MQ below (qx D classes N0 N1 (some (.int RES)) (fun w => w = wsM G cI cL τ rest)) args s 0 0 (ga N1)) (F0 m 6 ls []) := by
  have hx := hC.1
  have hb := hC.2.1
  intro n
  induction n with
  | zero =>
    intro v1 v2 v4 v5 hI
    exact absurd hI up_zero
  | succ n ih =>
    intro v1 v2 v4 v5 hI hR hk H locs hB ls hl
    rw [lp_Mo_nextGate_6] at hR
    rw [kl_Mo_nextGate_6] at hk
    refine lv_iload hx hb d_Mo_nextGate_6 (lv_at hl 4 rfl) ?_
    refine lv_bipush (v := 8) hx hb d_Mo_nextGate_8 (by decide) ?_
    refine lv_aload_n hx hb d_Mo_nextGate_10 rfl (lv_at hl 0 rfl) ?_
    refine lv_iconst (v := 2) hx hb d_Mo_nextGate_11 (by decide) ?_
    refine kV hC hB _ lkM_o rfl (c_Mo_count τ  2 (andL hk)) allw_ok mf_Mo_count kw_963 ks_29 kw_961 ⟨rfl, rfl, Nat.le_of_ble_eq_true rfl, Nat.le_of_ble_eq_true rfl⟩ rfl rfl hl.1 (Nat.le_of_ble_eq_true rfl) d_Mo_nextGate_12 ⟨Nat.le_of_ble_eq_true rfl, Nat.le_of_ble_eq_true rfl⟩ (roK fun H locs hB => ?_)
    replace hk := andR hk
    refine lv_imul hx hb d_Mo_nextGate_15 ?_
    refine lv_icmp_ge (tgt := 99) hx hb d_Mo_nextGate_16 (by decide) (fun c_1 => ?_) (fun c_1 => ?_)
    · rw [if_pos c_1] at hR hk
      refine lv_iload hx hb d_Mo_nextGate_99 (lv_at hl 3 rfl) ?_
      subst hR
      exact ri hC hB rfl d_Mo_nextGate_101
    · rw [if_neg c_1] at hR hk
      refine lv_aload_n hx hb d_Mo_nextGate_19 rfl (lv_at hl 0 rfl) ?_
      refine gt hC hB _ lkM_o rfl i_Mo 1 (by decide) rfl kw_892 rfl d_Mo_nextGate_20 ?_
      refine lv_sipush (v := 2192) hx hb d_Mo_nextGate_23 (by decide) ?_
      refine lv_iload hx hb d_Mo_nextGate_26 (lv_at hl 4 rfl) ?_
      refine lv_iadd hx hb d_Mo_nextGate_28 ?_
      refine va_lald hx hb hC.2.2.2.2.2.2.2.1.1 hB.1 _ 1 (lkM_l (by decide : 0 < 4)) rfl (of_eq_true (andL hk)) d_Mo_nextGate_29 ?_
      replace hk := andR hk
      refine lv_iload_n hx hb d_Mo_nextGate_30 rfl (lv_at hl 1 rfl) ?_
      refine lv_i2l hx hb d_Mo_nextGate_31 rfl ?_
      refine lv_lconst (v := 1) hx hb d_Mo_nextGate_32 (by decide) ?_
      refine lv_ladd hx hb d_Mo_nextGate_33 ?_
      refine W.lcmp hx hb d_Mo_nextGate_34 ?_
      refine lv_if_ne (tgt := 93) hx hb d_Mo_nextGate_35 (by decide) (fun c_2 => ?_) (fun c_2 => ?_)
      · rw [if_neg c_2] at hR hk
        refine lv_iinc (v := (v5 + 1)) (lv' := [(5, .int (v5 + 1)), (0, .ref (G 4 0)), (1, .int v1), (2, .long v2), (4, .int v4)]) hx hb d_Mo_nextGate_93 hl (k := 4) rfl rfl (by decide) rfl (fun ls hl => ?_)
        refine lv_goto (tgt := 6) hx hb d_Mo_nextGate_96 (by decide) ?_
        exact ih v1 v2 v4 (v5 + 1) (up_step hI (by assumption)) hR hk _ _ hB ls (lv_sub hl [1, 2, 3, 4, 0] rfl)
      · rw [if_pos c_2] at hR hk
        refine lv_aload_n hx hb d_Mo_nextGate_38 rfl (lv_at hl 0 rfl) ?_
        refine gt hC hB _ lkM_o rfl i_Mo 1 (by decide) rfl kw_892 rfl d_Mo_nextGate_39 ?_
        refine lv_sipush (v := 2432) hx hb d_Mo_nextGate_42 (by decide) ?_
        refine lv_iload hx hb d_Mo_nextGate_45 (lv_at hl 4 rfl) ?_
        refine lv_iadd hx hb d_Mo_nextGate_47 ?_
        refine va_lald hx hb hC.2.2.2.2.2.2.2.1.1 hB.1 _ 1 (lkM_l (by decide : 0 < 4)) rfl (of_eq_true (andL hk)) d_Mo_nextGate_48 ?_
        replace hk := andR hk
        refine lv_lload_n hx hb d_Mo_nextGate_49 rfl (lv_at hl 2 rfl) ?_
        refine W.lcmp hx hb d_Mo_nextGate_50 ?_
        refine lv_if_gt (tgt := 57) hx hb d_Mo_nextGate_51 (by decide) (fun c_3 => ?_) (fun c_3 => ?_)
        · rw [if_pos c_3] at hR hk
          refine lv_iload hx hb d_Mo_nextGate_57 (lv_at hl 3 rfl) ?_
          refine lv_iconst (v := (-1)) hx hb d_Mo_nextGate_59 (by decide) ?_
          refine lv_icmp_eq (tgt := 89) hx hb d_Mo_nextGate_60 (by decide) (fun c_4 => ?_) (fun c_4 => ?_)
          · rw [if_pos c_4] at hR hk
            refine lv_iload hx hb d_Mo_nextGate_89 (lv_at hl 4 rfl) ?_
            refine lv_istore (lv' := [(4, .int v5), (0, .ref (G 4 0)), (1, .int v1), (2, .long v2), (5, .int v5)]) hx hb d_Mo_nextGate_91 hl (by decide) rfl (fun ls hl => ?_)
            refine lv_iinc (v := (v5 + 1)) (lv' := [(5, .int (v5 + 1)), (4, .int v5), (0, .ref (G 4 0)), (1, .int v1), (2, .long v2)]) hx hb d_Mo_nextGate_93 hl (k := 4) rfl rfl (by decide) rfl (fun ls hl => ?_)
            refine lv_goto (tgt := 6) hx hb d_Mo_nextGate_96 (by decide) ?_
            exact ih v1 v2 v5 (v5 + 1) (up_step hI (by assumption)) hR hk _ _ hB ls (lv_sub hl [2, 3, 4, 1, 0] rfl)
          · rw [if_neg c_4] at hR hk
            refine lv_aload_n hx hb d_Mo_nextGate_63 rfl (lv_at hl 0 rfl) ?_
            refine gt hC hB _ lkM_o rfl i_Mo 1 (by decide) rfl kw_892 rfl d_Mo_nextGate_64 ?_
            refine lv_sipush (v := 2432) hx hb d_Mo_nextGate_67 (by decide) ?_
            refine lv_iload hx hb d_Mo_nextGate_70 (lv_at hl 4 rfl) ?_
            refine lv_iadd hx hb d_Mo_nextGate_72 ?_
            refine va_lald hx hb hC.2.2.2.2.2.2.2.1.1 hB.1 _ 1 (lkM_l (by decide : 0 < 4)) rfl (of_eq_true (andL hk)) d_Mo_nextGate_73 ?_
            replace hk := andR hk
            refine lv_aload_n hx hb d_Mo_nextGate_74 rfl (lv_at hl 0 rfl) ?_
            refine gt hC hB _ lkM_o rfl i_Mo 1 (by decide) rfl kw_892 rfl d_Mo_nextGate_75 ?_
            refine lv_sipush (v := 2432) hx hb d_Mo_nextGate_78 (by decide) ?_
            refine lv_iload hx hb d_Mo_nextGate_81 (lv_at hl 3 rfl) ?_
            refine lv_iadd hx hb d_Mo_nextGate_83 ?_
            refine va_lald hx hb hC.2.2.2.2.2.2.2.1.1 hB.1 _ 1 (lkM_l (by decide : 0 < 4)) rfl (of_eq_true (andL hk)) d_Mo_nextGate_84 ?_
            replace hk := andR hk
            refine W.lcmp hx hb d_Mo_nextGate_85 ?_
            refine lv_if_ge (tgt := 93) hx hb d_Mo_nextGate_86 (by decide) (fun c_5 => ?_) (fun c_5 => ?_)
            · rw [if_pos c_5] at hR hk
              refine lv_iinc (v := (v5 + 1)) (lv' := [(5, .int (v5 + 1)), (0, .ref (G 4 0)), (1, .int v1), (2, .long v2), (4, .int v4)]) hx hb d_Mo_nextGate_93 hl (k := 4) rfl rfl (by decide) rfl (fun ls hl => ?_)
              refine lv_goto (tgt := 6) hx hb d_Mo_nextGate_96 (by decide) ?_
              exact ih v1 v2 v4 (v5 + 1) (up_step hI (by assumption)) hR hk _ _ hB ls (lv_sub hl [1, 2, 3, 4, 0] rfl)
            · rw [if_neg c_5] at hR hk
              refine lv_iload hx hb d_Mo_nextGate_89 (lv_at hl 4 rfl) ?_
              refine lv_istore (lv' := [(4, .int v5), (0, .ref (G 4 0)), (1, .int v1), (2, .long v2), (5, .int v5)]) hx hb d_Mo_nextGate_91 hl (by decide) rfl (fun ls hl => ?_)
              refine lv_iinc (v := (v5 + 1)) (lv' := [(5, .int (v5 + 1)), (4, .int v5), (0, .ref (G 4 0)), (1, .int v1), (2, .long v2)]) hx hb d_Mo_nextGate_93 hl (k := 4) rfl rfl (by decide) rfl (fun ls hl => ?_)
              refine lv_goto (tgt := 6) hx hb d_Mo_nextGate_96 (by decide) ?_
              exact ih v1 v2 v5 (v5 + 1) (up_step hI (by assumption)) hR hk _ _ hB ls (lv_sub hl [2, 3, 4, 1, 0] rfl)
        · rw [if_neg c_3] at hR hk
          refine lv_goto (tgt := 93) hx hb d_Mo_nextGate_54 (by decide) ?_
          refine lv_iinc (v := (v5 + 1)) (lv' := [(5, .int (v5 + 1)), (0, .ref (G 4 0)), (1, .int v1), (2, .long v2), (4, .int v4)]) hx hb d_Mo_nextGate_93 hl (k := 4) rfl rfl (by decide) rfl (fun ls hl => ?_)
          refine lv_goto (tgt := 6) hx hb d_Mo_nextGate_96 (by decide) ?_
          exact ih v1 v2 v4 (v5 + 1) (up_step hI (by assumption)) hR hk _ _ hB ls (lv_sub hl [1, 2, 3, 4, 0] rfl)

set_option maxHeartbeats 400000 in
set_option maxRecDepth 100000 in
theorem c_Mo_nextGate  (τ : SM)  (x0 : Int32) (x1 : Int64) (hk : (k_Mo_nextGate τ x0 x1) = True) : CM l y_Mo_nextGate b_Mo_nextGate 6 (some .int) { frames := 1, cells := 0, slots := 0, locals := 21 } D (tyL cI cL cQ) N0 N1 [.ref (G 4 0), .int x0, .long x1] (wsM G cI cL τ rest) (some (.int (m_Mo_nextGate τ x0 x1))) (fun w => w = wsM G cI cL τ rest) 0 0 := by
  generalize hR : m_Mo_nextGate τ x0 x1 = RES
  refine met_of (own := R_Mo) (by decide) rfl nwl_ok ?_
  intro p e s m below meth c hC hin hB
  have hx := hC.1
  have hb := hC.2.1
  have hl := lv_entry ([.ref (G 4 0), .int x0, .long x1]) (n := 6) (Nat.le_of_ble_eq_true rfl)
  rw [lg_entry_eq]
  generalize (lg_sl ([.ref (G 4 0), .int x0, .long x1]) ++ List.replicate (6 - (lg_sl ([.ref (G 4 0), .int x0, .long x1])).length) Slot.unset).toArray = ls at hl ⊢
  have hl : lv_has ls 6 [(0, .ref (G 4 0)), (1, .int x0), (2, .long x1)] := hl
  rw [m_Mo_nextGate] at hR
  rw [k_Mo_nextGate] at hk
  refine lv_iconst (v := (-1)) hx hb d_Mo_nextGate_0 (by decide) ?_
  refine lv_istore (lv' := [(4, .int (-1)), (0, .ref (G 4 0)), (1, .int x0), (2, .long x1)]) hx hb d_Mo_nextGate_1 hl (by decide) rfl (fun ls hl => ?_)
  refine lv_iconst (v := 0) hx hb d_Mo_nextGate_3 (by decide) ?_
  refine lv_istore (lv' := [(5, .int 0), (4, .int (-1)), (0, .ref (G 4 0)), (1, .int x0), (2, .long x1)]) hx hb d_Mo_nextGate_4 hl (by decide) rfl (fun ls hl => ?_)
  exact w_Mo_nextGate_6  τ  hC ((8 * m_Mo_count τ 2).toNatClampNeg + 1) x0 x1 (-1) 0 (up_init _) hR hk _ _ hB ls (lv_sub hl [2, 3, 4, 1, 0] rfl)
end SMW
