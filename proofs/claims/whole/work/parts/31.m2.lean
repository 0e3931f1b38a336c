def lp_Mo_begin_2 : Nat → SM → Int32 → SM
  | 0, τ, _ => τ
  | n + 1, τ, v1 =>
    if 3842 ≤ v1 then
      τ
    else
      lp_Mo_begin_2 n (wL τ 1 v1.toNatClampNeg (yL τ 0 v1.toNatClampNeg)) (v1 + 1)
def kl_Mo_begin_2 : Nat → SM → Int32 → Prop
  | 0, _, _ => True
  | n + 1, τ, v1 =>
    if 3842 ≤ v1 then
      True
    else
      (vp_in v1 (lnML 0)) ∧
      (vp_in v1 (lnML 1)) ∧
      kl_Mo_begin_2 n (wL τ 1 v1.toNatClampNeg (yL τ 0 v1.toNatClampNeg)) (v1 + 1)

def m_Mo_begin (τ : SM) : SM :=
  lp_Mo_begin_2 ((3842 : Int32).toNatClampNeg + 1) τ 0

def k_Mo_begin (τ : SM) : Prop :=
  kl_Mo_begin_2 ((3842 : Int32).toNatClampNeg + 1) τ 0

def lp_Mo_giveBack_2 : Nat → SM → Int32 → SM
  | 0, τ, _ => τ
  | n + 1, τ, v1 =>
    if 3842 ≤ v1 then
      (wf τ false)
    else
      lp_Mo_giveBack_2 n (wL τ 0 v1.toNatClampNeg (yL τ 1 v1.toNatClampNeg)) (v1 + 1)
def kl_Mo_giveBack_2 : Nat → SM → Int32 → Prop
  | 0, _, _ => True
  | n + 1, τ, v1 =>
    if 3842 ≤ v1 then
      True
    else
      (vp_in v1 (lnML 1)) ∧
      (vp_in v1 (lnML 0)) ∧
      kl_Mo_giveBack_2 n (wL τ 0 v1.toNatClampNeg (yL τ 1 v1.toNatClampNeg)) (v1 + 1)

def m_Mo_giveBack (τ : SM) : SM :=
  lp_Mo_giveBack_2 ((3842 : Int32).toNatClampNeg + 1) τ 0

def k_Mo_giveBack (τ : SM) : Prop :=
  kl_Mo_giveBack_2 ((3842 : Int32).toNatClampNeg + 1) τ 0

def lp_Mo_done_15 : Nat → SM → Int32 → Int32 → SM
  | 0, τ, _, _ => τ
  | n + 1, τ, v1, v2 =>
    if 3842 ≤ v2 then
      if (yn τ 1) = 50 then
        (wf (wn τ 2 (((yn τ 2) + 1) - ((yn τ 2) + 1) / 50 * 50)) false)
      else
        (wf (wn τ 1 ((yn τ 1) + 1)) false)
    else
      lp_Mo_done_15 n (wL τ 2 (((3842 * v1) + v2).toNatClampNeg) (yL τ 1 v2.toNatClampNeg)) v1 (v2 + 1)
def kl_Mo_done_15 : Nat → SM → Int32 → Int32 → Prop
  | 0, _, _, _ => True
  | n + 1, τ, v1, v2 =>
    if 3842 ≤ v2 then
      if (yn τ 1) = 50 then
        True
      else
        True
    else
      (vp_in v2 (lnML 1)) ∧
      (vp_in ((3842 * v1) + v2) (lnML 2)) ∧
      kl_Mo_done_15 n (wL τ 2 (((3842 * v1) + v2).toNatClampNeg) (yL τ 1 v2.toNatClampNeg)) v1 (v2 + 1)

def m_Mo_done (τ : SM) : SM :=
  lp_Mo_done_15 ((3842 : Int32).toNatClampNeg + 1) τ (((yn τ 2) + (yn τ 1)) - ((yn τ 2) + (yn τ 1)) / 50 * 50) 0

def k_Mo_done (τ : SM) : Prop :=
  kl_Mo_done_15 ((3842 : Int32).toNatClampNeg + 1) τ (((yn τ 2) + (yn τ 1)) - ((yn τ 2) + (yn τ 1)) / 50 * 50) 0

def lp_Mo_undo_39 : Nat → SM → Int32 → Int32 → Bool × SM
  | 0, τ, _, _ => (false, τ)
  | n + 1, τ, v1, v2 =>
    if 3842 ≤ v2 then
      (true, (wf (wn τ 3 0) false))
    else
      lp_Mo_undo_39 n (wL τ 0 v2.toNatClampNeg (yL τ 2 ((3842 * v1) + v2).toNatClampNeg)) v1 (v2 + 1)
def kl_Mo_undo_39 : Nat → SM → Int32 → Int32 → Prop
  | 0, _, _, _ => True
  | n + 1, τ, v1, v2 =>
    if 3842 ≤ v2 then
      True
    else
      (vp_in ((3842 * v1) + v2) (lnML 2)) ∧
      (vp_in v2 (lnML 0)) ∧
      kl_Mo_undo_39 n (wL τ 0 v2.toNatClampNeg (yL τ 2 ((3842 * v1) + v2).toNatClampNeg)) v1 (v2 + 1)

def m_Mo_undo (τ : SM) : Bool × SM :=
  if (yn τ 1) = 0 then
    (false, (wn τ 0 0))
  else
    lp_Mo_undo_39 ((3842 : Int32).toNatClampNeg + 1) (wn (wn τ 0 0) 1 ((yn τ 1) - 1)) (((yn τ 2) + ((yn τ 1) - 1)) - ((yn τ 2) + ((yn τ 1) - 1)) / 50 * 50) 0

def k_Mo_undo (τ : SM) : Prop :=
  if (yn τ 1) = 0 then
    True
  else
    kl_Mo_undo_39 ((3842 : Int32).toNatClampNeg + 1) (wn (wn τ 0 0) 1 ((yn τ 1) - 1)) (((yn τ 2) + ((yn τ 1) - 1)) - ((yn τ 2) + ((yn τ 1) - 1)) / 50 * 50) 0

def m_Mo_addPage (τ : SM) (x0 : Int32) (x1 : Int32) (x2 : Int32) (x3 : Int32) : SM :=
  (wn (wI (wI (wI (wI τ 0 ((yn τ 4).toNatClampNeg) x0) 1 ((yn τ 4).toNatClampNeg) x1) 2 ((yn τ 4).toNatClampNeg) x2) 3 ((yn τ 4).toNatClampNeg) x3) 4 ((yn τ 4) + 1))

def k_Mo_addPage (τ : SM) (x0 : Int32) (x1 : Int32) (x2 : Int32) (x3 : Int32) : Prop :=
  (vp_in (yn τ 4) (lnMI 0)) ∧
  (vp_in (yn τ 4) (lnMI 1)) ∧
  (vp_in (yn τ 4) (lnMI 2)) ∧
  (vp_in (yn τ 4) (lnMI 3)) ∧
  True

def lp_Mo_turn_31 : Nat → SM → Int32 → SM
  | 0, τ, _ => τ
  | n + 1, τ, v1 =>
    if v1 < 0 then
      (wf τ true)
    else
      if 300 < (yn τ 4) then
        (wf τ true)
      else
        if (m_Mo_next τ (yI τ 0 (yI τ 5 v1.toNatClampNeg).toNatClampNeg) (yL τ 3 v1.toNatClampNeg)) = (-1) then
          lp_Mo_turn_31 n τ (v1 + (-1))
        else
          lp_Mo_turn_31 n (wL (wI (m_Mo_addPage (wL τ 3 v1.toNatClampNeg (yL τ 0 (152 + (m_Mo_next τ (yI τ 0 (yI τ 5 v1.toNatClampNeg).toNatClampNeg) (yL τ 3 v1.toNatClampNeg))).toNatClampNeg)) ((yL (wL τ 3 v1.toNatClampNeg (yL τ 0 (152 + (m_Mo_next τ (yI τ 0 (yI τ 5 v1.toNatClampNeg).toNatClampNeg) (yL τ 3 v1.toNatClampNeg))).toNatClampNeg)) 0 (92 + (m_Mo_next τ (yI τ 0 (yI τ 5 v1.toNatClampNeg).toNatClampNeg) (yL τ 3 v1.toNatClampNeg))).toNatClampNeg).toInt32) (m_Mo_next τ (yI τ 0 (yI τ 5 v1.toNatClampNeg).toNatClampNeg) (yL τ 3 v1.toNatClampNeg)) (yI τ 5 v1.toNatClampNeg) (v1 + 1)) 5 ((v1 + 1).toNatClampNeg) ((yn (m_Mo_addPage (wL τ 3 v1.toNatClampNeg (yL τ 0 (152 + (m_Mo_next τ (yI τ 0 (yI τ 5 v1.toNatClampNeg).toNatClampNeg) (yL τ 3 v1.toNatClampNeg))).toNatClampNeg)) ((yL (wL τ 3 v1.toNatClampNeg (yL τ 0 (152 + (m_Mo_next τ (yI τ 0 (yI τ 5 v1.toNatClampNeg).toNatClampNeg) (yL τ 3 v1.toNatClampNeg))).toNatClampNeg)) 0 (92 + (m_Mo_next τ (yI τ 0 (yI τ 5 v1.toNatClampNeg).toNatClampNeg) (yL τ 3 v1.toNatClampNeg))).toNatClampNeg).toInt32) (m_Mo_next τ (yI τ 0 (yI τ 5 v1.toNatClampNeg).toNatClampNeg) (yL τ 3 v1.toNatClampNeg)) (yI τ 5 v1.toNatClampNeg) (v1 + 1)) 4) - 1)) 3 ((v1 + 1).toNatClampNeg) (-1)) (v1 + 1)
def kl_Mo_turn_31 : Nat → SM → Int32 → Prop
  | 0, _, _ => False
  | n + 1, τ, v1 =>
    if v1 < 0 then
      True
    else
      if 300 < (yn τ 4) then
        True
      else
        (vp_in v1 (lnMI 5)) ∧
        (vp_in (yI τ 5 v1.toNatClampNeg) (lnMI 0)) ∧
        (vp_in v1 (lnML 3)) ∧
        (k_Mo_next τ (yI τ 0 (yI τ 5 v1.toNatClampNeg).toNatClampNeg) (yL τ 3 v1.toNatClampNeg)) ∧
        if (m_Mo_next τ (yI τ 0 (yI τ 5 v1.toNatClampNeg).toNatClampNeg) (yL τ 3 v1.toNatClampNeg)) = (-1) then
          kl_Mo_turn_31 n τ (v1 + (-1))
        else
          (vp_in (152 + (m_Mo_next τ (yI τ 0 (yI τ 5 v1.toNatClampNeg).toNatClampNeg) (yL τ 3 v1.toNatClampNeg))) (lnML 0)) ∧
          (vp_in v1 (lnML 3)) ∧
          (vp_in (92 + (m_Mo_next τ (yI τ 0 (yI τ 5 v1.toNatClampNeg).toNatClampNeg) (yL τ 3 v1.toNatClampNeg))) (lnML 0)) ∧
          (k_Mo_addPage (wL τ 3 v1.toNatClampNeg (yL τ 0 (152 + (m_Mo_next τ (yI τ 0 (yI τ 5 v1.toNatClampNeg).toNatClampNeg) (yL τ 3 v1.toNatClampNeg))).toNatClampNeg)) ((yL (wL τ 3 v1.toNatClampNeg (yL τ 0 (152 + (m_Mo_next τ (yI τ 0 (yI τ 5 v1.toNatClampNeg).toNatClampNeg) (yL τ 3 v1.toNatClampNeg))).toNatClampNeg)) 0 (92 + (m_Mo_next τ (yI τ 0 (yI τ 5 v1.toNatClampNeg).toNatClampNeg) (yL τ 3 v1.toNatClampNeg))).toNatClampNeg).toInt32) (m_Mo_next τ (yI τ 0 (yI τ 5 v1.toNatClampNeg).toNatClampNeg) (yL τ 3 v1.toNatClampNeg)) (yI τ 5 v1.toNatClampNeg) (v1 + 1)) ∧
          (vp_in (v1 + 1) (lnMI 5)) ∧
          (vp_in (v1 + 1) (lnML 3)) ∧
          kl_Mo_turn_31 n (wL (wI (m_Mo_addPage (wL τ 3 v1.toNatClampNeg (yL τ 0 (152 + (m_Mo_next τ (yI τ 0 (yI τ 5 v1.toNatClampNeg).toNatClampNeg) (yL τ 3 v1.toNatClampNeg))).toNatClampNeg)) ((yL (wL τ 3 v1.toNatClampNeg (yL τ 0 (152 + (m_Mo_next τ (yI τ 0 (yI τ 5 v1.toNatClampNeg).toNatClampNeg) (yL τ 3 v1.toNatClampNeg))).toNatClampNeg)) 0 (92 + (m_Mo_next τ (yI τ 0 (yI τ 5 v1.toNatClampNeg).toNatClampNeg) (yL τ 3 v1.toNatClampNeg))).toNatClampNeg).toInt32) (m_Mo_next τ (yI τ 0 (yI τ 5 v1.toNatClampNeg).toNatClampNeg) (yL τ 3 v1.toNatClampNeg)) (yI τ 5 v1.toNatClampNeg) (v1 + 1)) 5 ((v1 + 1).toNatClampNeg) ((yn (m_Mo_addPage (wL τ 3 v1.toNatClampNeg (yL τ 0 (152 + (m_Mo_next τ (yI τ 0 (yI τ 5 v1.toNatClampNeg).toNatClampNeg) (yL τ 3 v1.toNatClampNeg))).toNatClampNeg)) ((yL (wL τ 3 v1.toNatClampNeg (yL τ 0 (152 + (m_Mo_next τ (yI τ 0 (yI τ 5 v1.toNatClampNeg).toNatClampNeg) (yL τ 3 v1.toNatClampNeg))).toNatClampNeg)) 0 (92 + (m_Mo_next τ (yI τ 0 (yI τ 5 v1.toNatClampNeg).toNatClampNeg) (yL τ 3 v1.toNatClampNeg))).toNatClampNeg).toInt32) (m_Mo_next τ (yI τ 0 (yI τ 5 v1.toNatClampNeg).toNatClampNeg) (yL τ 3 v1.toNatClampNeg)) (yI τ 5 v1.toNatClampNeg) (v1 + 1)) 4) - 1)) 3 ((v1 + 1).toNatClampNeg) (-1)) (v1 + 1)

def m_Mo_turn (τ : SM) : SM :=
  lp_Mo_turn_31 700 (wL (wI (m_Mo_addPage (wn τ 4 0) 0 (-1) (-1) 0) 5 ((0 : Int32).toNatClampNeg) 0) 3 ((0 : Int32).toNatClampNeg) (-1)) 0

def k_Mo_turn (τ : SM) : Prop :=
  (k_Mo_addPage (wn τ 4 0) 0 (-1) (-1) 0) ∧
  (vp_in 0 (lnMI 5)) ∧
  (vp_in 0 (lnML 3)) ∧
  kl_Mo_turn_31 700 (wL (wI (m_Mo_addPage (wn τ 4 0) 0 (-1) (-1) 0) 5 ((0 : Int32).toNatClampNeg) 0) 3 ((0 : Int32).toNatClampNeg) (-1)) 0

def m_Mo_look (τ : SM) : SM :=
  if (bi (yf τ)) = 0 then
    (m_Mo_turn τ)
  else
    τ

def k_Mo_look (τ : SM) : Prop :=
  if (bi (yf τ)) = 0 then
    (k_Mo_turn τ) ∧
    True
  else
    True

def m_Mo_isPage (τ : SM) (x0 : Int32) : Bool × SM :=
  if x0 < 0 then
    (false, (m_Mo_look τ))
  else
    if (yn (m_Mo_look τ) 4) ≤ x0 then
      (false, (m_Mo_look τ))
    else
      (true, (m_Mo_look τ))

def k_Mo_isPage (τ : SM) (x0 : Int32) : Prop :=
  (k_Mo_look τ) ∧
  if x0 < 0 then
    True
  else
    if (yn (m_Mo_look τ) 4) ≤ x0 then
      True
    else
      True

def m_Mo_hasRoom (τ : SM) : Bool × SM :=
  if 300 < (yn (m_Mo_turn τ) 4) then
    (false, (wf (m_Mo_turn τ) false))
  else
    (true, (wf (m_Mo_turn τ) true))

def k_Mo_hasRoom (τ : SM) : Prop :=
  (k_Mo_turn τ) ∧
  if 300 < (yn (m_Mo_turn τ) 4) then
    True
  else
    True

def lp_Mo_liesIn_19 (K : SM → Int32 → Int32 → Int32 → Int32 → Bool) : Nat → SM → Int32 → Int32 → Int32 → Int32 → Int32 → Bool
  | 0, τ, _, _, _, _, _ => false
  | n + 1, τ, v1, v2, v3, v4, v5 =>
    if (m_Mo_count τ 1) ≤ v5 then
      K τ v1 v2 v3 v4
    else
      if (lg_cmp (yL τ 0 (152 + v5).toNatClampNeg) 0) < 0 then
        lp_Mo_liesIn_19 K n τ v1 v2 v3 v4 (v5 + 1)
      else
        if ((v3 >>> ((yL τ 0 (32 + v5).toNatClampNeg).toInt32 &&& 31)) &&& 1) = 1 then
          lp_Mo_liesIn_19 K n τ v1 v2 (v3 ||| (1 <<< ((yL τ 0 (92 + v5).toNatClampNeg).toInt32 &&& 31))) v4 (v5 + 1)
        else
          lp_Mo_liesIn_19 K n τ v1 v2 v3 v4 (v5 + 1)
def kl_Mo_liesIn_19 (KP : SM → Int32 → Int32 → Int32 → Int32 → Prop) : Nat → SM → Int32 → Int32 → Int32 → Int32 → Int32 → Prop
  | 0, _, _, _, _, _, _ => True
  | n + 1, τ, v1, v2, v3, v4, v5 =>
    (k_Mo_count τ 1) ∧
    if (m_Mo_count τ 1) ≤ v5 then
      KP τ v1 v2 v3 v4
    else
      (vp_in (152 + v5) (lnML 0)) ∧
      if (lg_cmp (yL τ 0 (152 + v5).toNatClampNeg) 0) < 0 then
        kl_Mo_liesIn_19 KP n τ v1 v2 v3 v4 (v5 + 1)
      else
        (vp_in (32 + v5) (lnML 0)) ∧
        if ((v3 >>> ((yL τ 0 (32 + v5).toNatClampNeg).toInt32 &&& 31)) &&& 1) = 1 then
          (vp_in (92 + v5) (lnML 0)) ∧
          kl_Mo_liesIn_19 KP n τ v1 v2 (v3 ||| (1 <<< ((yL τ 0 (92 + v5).toNatClampNeg).toInt32 &&& 31))) v4 (v5 + 1)
        else
          kl_Mo_liesIn_19 KP n τ v1 v2 v3 v4 (v5 + 1)

def lp_Mo_liesIn_7 : Nat → SM → Int32 → Int32 → Int32 → Int32 → Bool
  | 0, τ, _, _, _, _ => false
  | n + 1, τ, v1, v2, v3, v4 =>
    if v4 = v3 then
      if ((v3 >>> (v1 &&& 31)) &&& 1) = 1 then
        true
      else
        false
    else
      lp_Mo_liesIn_19 (lp_Mo_liesIn_7 n) ((m_Mo_count τ 1).toNatClampNeg + 1) τ v1 v2 v3 v3 0
def kl_Mo_liesIn_7 : Nat → SM → Int32 → Int32 → Int32 → Int32 → Prop
  | 0, _, _, _, _, _ => False
  | n + 1, τ, v1, v2, v3, v4 =>
    if v4 = v3 then
      if ((v3 >>> (v1 &&& 31)) &&& 1) = 1 then
        True
      else
        True
    else
      kl_Mo_liesIn_19 (kl_Mo_liesIn_7 n) ((m_Mo_count τ 1).toNatClampNeg + 1) τ v1 v2 v3 v3 0

def m_Mo_liesIn (τ : SM) (x0 : Int32) (x1 : Int32) : Bool :=
  lp_Mo_liesIn_7 40 τ x0 x1 (1 <<< (x1 &&& 31)) 0

def k_Mo_liesIn (τ : SM) (x0 : Int32) (x1 : Int32) : Prop :=
  kl_Mo_liesIn_7 40 τ x0 x1 (1 <<< (x1 &&& 31)) 0

def m_Mo_sheet (τ : SM) : Int32 × SM :=
  if (m_Mo_count (wn τ 0 0) 0) = 24 then
    ((-1), (wn τ 0 0))
  else
    ((m_Mo_count (m_Mo_begin (wn τ 0 0)) 0), (m_Mo_done (wL (wL (m_Mo_begin (wn τ 0 0)) 0 ((8 + (m_Mo_count (m_Mo_begin (wn τ 0 0)) 0)).toNatClampNeg) 0) 0 ((0 : Int32).toNatClampNeg) ((yL (wL (m_Mo_begin (wn τ 0 0)) 0 ((8 + (m_Mo_count (m_Mo_begin (wn τ 0 0)) 0)).toNatClampNeg) 0) 0 (0 : Int32).toNatClampNeg) + 1))))

def k_Mo_sheet (τ : SM) : Prop :=
  (k_Mo_count (wn τ 0 0) 0) ∧
  if (m_Mo_count (wn τ 0 0) 0) = 24 then
    True
  else
    (k_Mo_begin (wn τ 0 0)) ∧
    (k_Mo_count (m_Mo_begin (wn τ 0 0)) 0) ∧
    (vp_in (8 + (m_Mo_count (m_Mo_begin (wn τ 0 0)) 0)) (lnML 0)) ∧
    (vp_in 0 (lnML 0)) ∧
    (vp_in 0 (lnML 0)) ∧
    (k_Mo_done (wL (wL (m_Mo_begin (wn τ 0 0)) 0 ((8 + (m_Mo_count (m_Mo_begin (wn τ 0 0)) 0)).toNatClampNeg) 0) 0 ((0 : Int32).toNatClampNeg) ((yL (wL (m_Mo_begin (wn τ 0 0)) 0 ((8 + (m_Mo_count (m_Mo_begin (wn τ 0 0)) 0)).toNatClampNeg) 0) 0 (0 : Int32).toNatClampNeg) + 1))) ∧
    True

def lp_Mo_addPlacement_48 : Nat → SM → Int32 → Int32 → Int32 → Int32 → Int32 × SM
  | 0, τ, _, _, _, _ => (0, τ)
  | n + 1, τ, v1, v2, v3, v4 =>
    if 32 ≤ v4 then
      (v3, (wL (wL τ 0 ((6 : Int32).toNatClampNeg) ((yL τ 0 (6 : Int32).toNatClampNeg) + 1)) 0 ((1 : Int32).toNatClampNeg) ((yL (wL τ 0 ((6 : Int32).toNatClampNeg) ((yL τ 0 (6 : Int32).toNatClampNeg) + 1)) 0 (1 : Int32).toNatClampNeg) + 1)))
    else
      lp_Mo_addPlacement_48 n (wL τ 0 (((212 + (32 * v3)) + v4).toNatClampNeg) 0) v1 v2 v3 (v4 + 1)
def kl_Mo_addPlacement_48 : Nat → SM → Int32 → Int32 → Int32 → Int32 → Prop
  | 0, _, _, _, _, _ => True
  | n + 1, τ, v1, v2, v3, v4 =>
    if 32 ≤ v4 then
      (vp_in 6 (lnML 0)) ∧
      (vp_in 6 (lnML 0)) ∧
      (vp_in 1 (lnML 0)) ∧
      (vp_in 1 (lnML 0)) ∧
      True
    else
      (vp_in ((212 + (32 * v3)) + v4) (lnML 0)) ∧
      kl_Mo_addPlacement_48 n (wL τ 0 (((212 + (32 * v3)) + v4).toNatClampNeg) 0) v1 v2 v3 (v4 + 1)

def m_Mo_addPlacement (τ : SM) (x0 : Int32) (x1 : Int32) : Int32 × SM :=
  lp_Mo_addPlacement_48 ((32 : Int32).toNatClampNeg + 1) (wL (wL (wL τ 0 ((32 + (m_Mo_count τ 1)).toNatClampNeg) x0.toInt64) 0 ((92 + (m_Mo_count τ 1)).toNatClampNeg) x1.toInt64) 0 ((152 + (m_Mo_count τ 1)).toNatClampNeg) (yL (wL (wL τ 0 ((32 + (m_Mo_count τ 1)).toNatClampNeg) x0.toInt64) 0 ((92 + (m_Mo_count τ 1)).toNatClampNeg) x1.toInt64) 0 (6 : Int32).toNatClampNeg)) x0 x1 (m_Mo_count τ 1) 0

def k_Mo_addPlacement (τ : SM) (x0 : Int32) (x1 : Int32) : Prop :=
  (k_Mo_count τ 1) ∧
  (vp_in (32 + (m_Mo_count τ 1)) (lnML 0)) ∧
  (vp_in (92 + (m_Mo_count τ 1)) (lnML 0)) ∧
  (vp_in 6 (lnML 0)) ∧
  (vp_in (152 + (m_Mo_count τ 1)) (lnML 0)) ∧
  kl_Mo_addPlacement_48 ((32 : Int32).toNatClampNeg + 1) (wL (wL (wL τ 0 ((32 + (m_Mo_count τ 1)).toNatClampNeg) x0.toInt64) 0 ((92 + (m_Mo_count τ 1)).toNatClampNeg) x1.toInt64) 0 ((152 + (m_Mo_count τ 1)).toNatClampNeg) (yL (wL (wL τ 0 ((32 + (m_Mo_count τ 1)).toNatClampNeg) x0.toInt64) 0 ((92 + (m_Mo_count τ 1)).toNatClampNeg) x1.toInt64) 0 (6 : Int32).toNatClampNeg)) x0 x1 (m_Mo_count τ 1) 0

def m_Mo_place (τ : SM) (x0 : Int32) (x1 : Int32) : Int32 × SM :=
  if (bi (m_Mo_isSheet τ x0)) = 0 then
    (0, (wn τ 0 1))
  else
    if (bi (m_Mo_isSheet τ x1)) = 0 then
      (0, (wn τ 0 1))
    else
      if (m_Mo_count (wn τ 0 0) 1) = 60 then
        ((-1), (wn τ 0 0))
      else
        if (bi (m_Mo_liesIn (wn τ 0 0) x0 x1)) = 0 then
          if (bi ((m_Mo_hasRoom ((m_Mo_addPlacement (m_Mo_begin (wn τ 0 0)) x0 x1).2)).1)) = 0 then
            ((-1), (m_Mo_giveBack ((m_Mo_hasRoom ((m_Mo_addPlacement (m_Mo_begin (wn τ 0 0)) x0 x1).2)).2)))
          else
            ((m_Mo_addPlacement (m_Mo_begin (wn τ 0 0)) x0 x1).1, (m_Mo_done ((m_Mo_hasRoom ((m_Mo_addPlacement (m_Mo_begin (wn τ 0 0)) x0 x1).2)).2)))
        else
          ((-1), (wn τ 0 0))

def k_Mo_place (τ : SM) (x0 : Int32) (x1 : Int32) : Prop :=
  (k_Mo_isSheet τ x0) ∧
  if (bi (m_Mo_isSheet τ x0)) = 0 then
    True
  else
    (k_Mo_isSheet τ x1) ∧
    if (bi (m_Mo_isSheet τ x1)) = 0 then
      True
    else
      (k_Mo_count (wn τ 0 0) 1) ∧
      if (m_Mo_count (wn τ 0 0) 1) = 60 then
        True
      else
        (k_Mo_liesIn (wn τ 0 0) x0 x1) ∧
        if (bi (m_Mo_liesIn (wn τ 0 0) x0 x1)) = 0 then
          (k_Mo_begin (wn τ 0 0)) ∧
          (k_Mo_addPlacement (m_Mo_begin (wn τ 0 0)) x0 x1) ∧
          (k_Mo_hasRoom ((m_Mo_addPlacement (m_Mo_begin (wn τ 0 0)) x0 x1).2)) ∧
          if (bi ((m_Mo_hasRoom ((m_Mo_addPlacement (m_Mo_begin (wn τ 0 0)) x0 x1).2)).1)) = 0 then
            (k_Mo_giveBack ((m_Mo_hasRoom ((m_Mo_addPlacement (m_Mo_begin (wn τ 0 0)) x0 x1).2)).2)) ∧
            True
          else
            (k_Mo_done ((m_Mo_hasRoom ((m_Mo_addPlacement (m_Mo_begin (wn τ 0 0)) x0 x1).2)).2)) ∧
            True
        else
          True

def lp_Mo_remove_45 : Nat → SM → Int32 → Int32 → Bool × SM
  | 0, τ, _, _ => (false, τ)
  | n + 1, τ, v1, v2 =>
    if 32 ≤ v2 then
      (true, (m_Mo_done τ))
    else
      lp_Mo_remove_45 n (wL τ 0 (((212 + (32 * v1)) + v2).toNatClampNeg) 0) v1 (v2 + 1)
def kl_Mo_remove_45 : Nat → SM → Int32 → Int32 → Prop
  | 0, _, _, _ => True
  | n + 1, τ, v1, v2 =>
    if 32 ≤ v2 then
      (k_Mo_done τ) ∧
      True
    else
      (vp_in ((212 + (32 * v1)) + v2) (lnML 0)) ∧
      kl_Mo_remove_45 n (wL τ 0 (((212 + (32 * v1)) + v2).toNatClampNeg) 0) v1 (v2 + 1)

def m_Mo_remove (τ : SM) (x0 : Int32) : Bool × SM :=
  if (bi (m_Mo_isPlacement τ x0)) = 0 then
    (false, (wn τ 0 1))
  else
    lp_Mo_remove_45 ((32 : Int32).toNatClampNeg + 1) (wL (m_Mo_begin (wn τ 0 0)) 0 ((152 + x0).toNatClampNeg) (-1)) x0 0

def k_Mo_remove (τ : SM) (x0 : Int32) : Prop :=
  (k_Mo_isPlacement τ x0) ∧
  if (bi (m_Mo_isPlacement τ x0)) = 0 then
    True
  else
    (k_Mo_begin (wn τ 0 0)) ∧
    (vp_in (152 + x0) (lnML 0)) ∧
    kl_Mo_remove_45 ((32 : Int32).toNatClampNeg + 1) (wL (m_Mo_begin (wn τ 0 0)) 0 ((152 + x0).toNatClampNeg) (-1)) x0 0

def lp_Mo_move_100 : Nat → SM → Int32 → Int32 → Int32 → Int32 → Bool × SM
  | 0, τ, _, _, _, _ => (false, τ)
  | n + 1, τ, v1, v2, v3, v4 =>
    if 32 ≤ v4 then
      if (bi ((m_Mo_hasRoom τ).1)) = 0 then
        (false, (m_Mo_giveBack ((m_Mo_hasRoom τ).2)))
      else
        (true, (m_Mo_done (wn ((m_Mo_hasRoom τ).2) 3 v3)))
    else
      if (lg_cmp (yL τ 0 ((212 + (32 * v1)) + v4).toNatClampNeg) 0) = 0 then
        lp_Mo_move_100 n τ v1 v2 v3 (v4 + 1)
      else
        if (bi (m_Mo_hasName τ v2.toInt64 ((yL τ 0 ((212 + (32 * v1)) + v4).toNatClampNeg).toInt32 - 1))) = 0 then
          lp_Mo_move_100 n (wL τ 0 (((212 + (32 * v1)) + v4).toNatClampNeg) 0) v1 v2 (v3 ||| (1 <<< (v4 &&& 31))) (v4 + 1)
        else
          lp_Mo_move_100 n τ v1 v2 v3 (v4 + 1)
def kl_Mo_move_100 : Nat → SM → Int32 → Int32 → Int32 → Int32 → Prop
  | 0, _, _, _, _, _ => True
  | n + 1, τ, v1, v2, v3, v4 =>
    if 32 ≤ v4 then
      (k_Mo_hasRoom τ) ∧
      if (bi ((m_Mo_hasRoom τ).1)) = 0 then
        (k_Mo_giveBack ((m_Mo_hasRoom τ).2)) ∧
        True
      else
        (k_Mo_done (wn ((m_Mo_hasRoom τ).2) 3 v3)) ∧
        True
    else
      (vp_in ((212 + (32 * v1)) + v4) (lnML 0)) ∧
      if (lg_cmp (yL τ 0 ((212 + (32 * v1)) + v4).toNatClampNeg) 0) = 0 then
        kl_Mo_move_100 n τ v1 v2 v3 (v4 + 1)
      else
        (k_Mo_hasName τ v2.toInt64 ((yL τ 0 ((212 + (32 * v1)) + v4).toNatClampNeg).toInt32 - 1)) ∧
        if (bi (m_Mo_hasName τ v2.toInt64 ((yL τ 0 ((212 + (32 * v1)) + v4).toNatClampNeg).toInt32 - 1))) = 0 then
          (vp_in ((212 + (32 * v1)) + v4) (lnML 0)) ∧
          kl_Mo_move_100 n (wL τ 0 (((212 + (32 * v1)) + v4).toNatClampNeg) 0) v1 v2 (v3 ||| (1 <<< (v4 &&& 31))) (v4 + 1)
        else
          kl_Mo_move_100 n τ v1 v2 v3 (v4 + 1)

def m_Mo_move (τ : SM) (x0 : Int32) (x1 : Int32) : Bool × SM :=
  if (bi (m_Mo_isPlacement τ x0)) = 0 then
    (false, (wn τ 0 1))
  else
    if (bi (m_Mo_isSheet τ x1)) = 0 then
      (false, (wn τ 0 1))
    else
      if (bi (m_Mo_liesIn (wn τ 0 0) x1 ((yL (wn τ 0 0) 0 (92 + x0).toNatClampNeg).toInt32))) = 0 then
        lp_Mo_move_100 ((32 : Int32).toNatClampNeg + 1) (wL (wL (wL (m_Mo_begin (wn τ 0 0)) 0 ((32 + x0).toNatClampNeg) x1.toInt64) 0 ((152 + x0).toNatClampNeg) (yL (wL (m_Mo_begin (wn τ 0 0)) 0 ((32 + x0).toNatClampNeg) x1.toInt64) 0 (6 : Int32).toNatClampNeg)) 0 ((6 : Int32).toNatClampNeg) ((yL (wL (wL (m_Mo_begin (wn τ 0 0)) 0 ((32 + x0).toNatClampNeg) x1.toInt64) 0 ((152 + x0).toNatClampNeg) (yL (wL (m_Mo_begin (wn τ 0 0)) 0 ((32 + x0).toNatClampNeg) x1.toInt64) 0 (6 : Int32).toNatClampNeg)) 0 (6 : Int32).toNatClampNeg) + 1)) x0 x1 0 0
      else
        (false, (wn τ 0 0))

def k_Mo_move (τ : SM) (x0 : Int32) (x1 : Int32) : Prop :=
  (k_Mo_isPlacement τ x0) ∧
  if (bi (m_Mo_isPlacement τ x0)) = 0 then
    True
  else
    (k_Mo_isSheet τ x1) ∧
    if (bi (m_Mo_isSheet τ x1)) = 0 then
      True
    else
      (vp_in (92 + x0) (lnML 0)) ∧
      (k_Mo_liesIn (wn τ 0 0) x1 ((yL (wn τ 0 0) 0 (92 + x0).toNatClampNeg).toInt32)) ∧
      if (bi (m_Mo_liesIn (wn τ 0 0) x1 ((yL (wn τ 0 0) 0 (92 + x0).toNatClampNeg).toInt32))) = 0 then
        (k_Mo_begin (wn τ 0 0)) ∧
        (vp_in (32 + x0) (lnML 0)) ∧
        (vp_in 6 (lnML 0)) ∧
        (vp_in (152 + x0) (lnML 0)) ∧
        (vp_in 6 (lnML 0)) ∧
        (vp_in 6 (lnML 0)) ∧
        kl_Mo_move_100 ((32 : Int32).toNatClampNeg + 1) (wL (wL (wL (m_Mo_begin (wn τ 0 0)) 0 ((32 + x0).toNatClampNeg) x1.toInt64) 0 ((152 + x0).toNatClampNeg) (yL (wL (m_Mo_begin (wn τ 0 0)) 0 ((32 + x0).toNatClampNeg) x1.toInt64) 0 (6 : Int32).toNatClampNeg)) 0 ((6 : Int32).toNatClampNeg) ((yL (wL (wL (m_Mo_begin (wn τ 0 0)) 0 ((32 + x0).toNatClampNeg) x1.toInt64) 0 ((152 + x0).toNatClampNeg) (yL (wL (m_Mo_begin (wn τ 0 0)) 0 ((32 + x0).toNatClampNeg) x1.toInt64) 0 (6 : Int32).toNatClampNeg)) 0 (6 : Int32).toNatClampNeg) + 1)) x0 x1 0 0
      else
        True

def lp_Mo_told_9 : Nat → SM → Int32 → Int32 → Int32 → Int32 × SM
  | 0, τ, _, _, _ => (0, τ)
  | n + 1, τ, v1, v2, v3 =>
    if 32 ≤ v3 then
      ((-1), τ)
    else
      if v1 < 0 then
        ((-1), τ)
      else
        if (((yn τ 3) >>> (v3 &&& 31)) &&& 1) = 0 then
          lp_Mo_told_9 n τ v1 v2 (v3 + 1)
        else
          if v2 = 0 then
            (v3, τ)
          else
            lp_Mo_told_9 n τ v1 (v2 + (-1)) (v3 + 1)
def kl_Mo_told_9 : Nat → SM → Int32 → Int32 → Int32 → Prop
  | 0, _, _, _, _ => True
  | n + 1, τ, v1, v2, v3 =>
    if 32 ≤ v3 then
      True
    else
      if v1 < 0 then
        True
      else
        if (((yn τ 3) >>> (v3 &&& 31)) &&& 1) = 0 then
          kl_Mo_told_9 n τ v1 v2 (v3 + 1)
        else
          if v2 = 0 then
            True
          else
            kl_Mo_told_9 n τ v1 (v2 + (-1)) (v3 + 1)

def m_Mo_told (τ : SM) (x0 : Int32) : Int32 × SM :=
  lp_Mo_told_9 ((32 : Int32).toNatClampNeg + 1) (wn τ 0 0) x0 x0 0

def k_Mo_told (τ : SM) (x0 : Int32) : Prop :=
  kl_Mo_told_9 ((32 : Int32).toNatClampNeg + 1) (wn τ 0 0) x0 x0 0

def m_Mo_port (τ : SM) (x0 : Int32) (x1 : Int32) : Bool × SM :=
  if (bi (m_Mo_isSheet τ x0)) = 0 then
    (false, (wn τ 0 1))
  else
    if (bi (m_Mo_isName x1)) = 0 then
      (false, (wn τ 0 1))
    else
      if (bi (m_Mo_hasName (wn τ 0 0) x0.toInt64 x1)) = 0 then
        (true, (m_Mo_done (wL (m_Mo_begin (wn τ 0 0)) 0 ((8 + x0).toNatClampNeg) ((yL (m_Mo_begin (wn τ 0 0)) 0 (8 + x0).toNatClampNeg) ||| (1 <<< (x1.toInt64 &&& 63))))))
      else
        (false, (wn τ 0 0))

def k_Mo_port (τ : SM) (x0 : Int32) (x1 : Int32) : Prop :=
  (k_Mo_isSheet τ x0) ∧
  if (bi (m_Mo_isSheet τ x0)) = 0 then
    True
  else
    (k_Mo_isName x1) ∧
    if (bi (m_Mo_isName x1)) = 0 then
      True
    else
      (k_Mo_hasName (wn τ 0 0) x0.toInt64 x1) ∧
      if (bi (m_Mo_hasName (wn τ 0 0) x0.toInt64 x1)) = 0 then
        (k_Mo_begin (wn τ 0 0)) ∧
        (vp_in (8 + x0) (lnML 0)) ∧
        (vp_in (8 + x0) (lnML 0)) ∧
        (k_Mo_done (wL (m_Mo_begin (wn τ 0 0)) 0 ((8 + x0).toNatClampNeg) ((yL (m_Mo_begin (wn τ 0 0)) 0 (8 + x0).toNatClampNeg) ||| (1 <<< (x1.toInt64 &&& 63))))) ∧
        True
      else
        True

def m_Mo_join (τ : SM) (x0 : Int32) (x1 : Int32) (x2 : Int32) : Bool × SM :=
  if (bi (m_Mo_isPlacement τ x0)) = 0 then
    (false, (wn τ 0 1))
  else
    if (bi (m_Mo_isName x1)) = 0 then
      (false, (wn τ 0 1))
    else
      if (bi (m_Mo_isName x2)) = 0 then
        (false, (wn τ 0 1))
      else
        if (bi (m_Mo_hasName (wn τ 0 0) (yL (wn τ 0 0) 0 (92 + x0).toNatClampNeg) x1)) = 0 then
          (false, (wn τ 0 0))
        else
          if (bi (m_Mo_hasName (wn τ 0 0) (yL (wn τ 0 0) 0 (32 + x0).toNatClampNeg) x2)) = 0 then
            (false, (wn τ 0 0))
          else
            if (lg_cmp (yL (wn τ 0 0) 0 ((212 + (32 * x0)) + x1).toNatClampNeg) (x2.toInt64 + 1)) = 0 then
              (false, (wn τ 0 0))
            else
              (true, (m_Mo_done (wL (m_Mo_begin (wn τ 0 0)) 0 (((212 + (32 * x0)) + x1).toNatClampNeg) (x2.toInt64 + 1))))

def k_Mo_join (τ : SM) (x0 : Int32) (x1 : Int32) (x2 : Int32) : Prop :=
  (k_Mo_isPlacement τ x0) ∧
  if (bi (m_Mo_isPlacement τ x0)) = 0 then
    True
  else
    (k_Mo_isName x1) ∧
    if (bi (m_Mo_isName x1)) = 0 then
      True
    else
      (k_Mo_isName x2) ∧
      if (bi (m_Mo_isName x2)) = 0 then
        True
      else
        (vp_in (92 + x0) (lnML 0)) ∧
        (k_Mo_hasName (wn τ 0 0) (yL (wn τ 0 0) 0 (92 + x0).toNatClampNeg) x1) ∧
        if (bi (m_Mo_hasName (wn τ 0 0) (yL (wn τ 0 0) 0 (92 + x0).toNatClampNeg) x1)) = 0 then
          True
        else
          (vp_in (32 + x0) (lnML 0)) ∧
          (k_Mo_hasName (wn τ 0 0) (yL (wn τ 0 0) 0 (32 + x0).toNatClampNeg) x2) ∧
          if (bi (m_Mo_hasName (wn τ 0 0) (yL (wn τ 0 0) 0 (32 + x0).toNatClampNeg) x2)) = 0 then
            True
          else
            (vp_in ((212 + (32 * x0)) + x1) (lnML 0)) ∧
            if (lg_cmp (yL (wn τ 0 0) 0 ((212 + (32 * x0)) + x1).toNatClampNeg) (x2.toInt64 + 1)) = 0 then
              True
            else
              (k_Mo_begin (wn τ 0 0)) ∧
              (vp_in ((212 + (32 * x0)) + x1) (lnML 0)) ∧
              (k_Mo_done (wL (m_Mo_begin (wn τ 0 0)) 0 (((212 + (32 * x0)) + x1).toNatClampNeg) (x2.toInt64 + 1))) ∧
              True

def m_Mo_joined (τ : SM) (x0 : Int32) (x1 : Int32) : Int32 × SM :=
  if (bi (m_Mo_isPlacement τ x0)) = 0 then
    (0, (wn τ 0 1))
  else
    if (bi (m_Mo_isName x1)) = 0 then
      (0, (wn τ 0 1))
    else
      (((yL (wn τ 0 0) 0 ((212 + (32 * x0)) + x1).toNatClampNeg).toInt32 - 1), (wn τ 0 0))

def k_Mo_joined (τ : SM) (x0 : Int32) (x1 : Int32) : Prop :=
  (k_Mo_isPlacement τ x0) ∧
  if (bi (m_Mo_isPlacement τ x0)) = 0 then
    True
  else
    (k_Mo_isName x1) ∧
    if (bi (m_Mo_isName x1)) = 0 then
      True
    else
      (vp_in ((212 + (32 * x0)) + x1) (lnML 0)) ∧
      True

def lp_Mo_addPart_34 : Nat → SM → Int64 → Int64 → Int32 → Int32 → Int32 × SM
  | 0, τ, _, _, _, _ => (0, τ)
  | n + 1, τ, v1, v3, v5, v6 =>
    if 8 ≤ v6 then
      (v5, (wL τ 0 ((2 : Int32).toNatClampNeg) ((yL τ 0 (2 : Int32).toNatClampNeg) + 1)))
    else
      lp_Mo_addPart_34 n (wL τ 0 (((2192 + (8 * v5)) + v6).toNatClampNeg) 0) v1 v3 v5 (v6 + 1)
def kl_Mo_addPart_34 : Nat → SM → Int64 → Int64 → Int32 → Int32 → Prop
  | 0, _, _, _, _, _ => True
  | n + 1, τ, v1, v3, v5, v6 =>
    if 8 ≤ v6 then
      (vp_in 2 (lnML 0)) ∧
      (vp_in 2 (lnML 0)) ∧
      True
    else
      (vp_in ((2192 + (8 * v5)) + v6) (lnML 0)) ∧
      kl_Mo_addPart_34 n (wL τ 0 (((2192 + (8 * v5)) + v6).toNatClampNeg) 0) v1 v3 v5 (v6 + 1)

def m_Mo_addPart (τ : SM) (x0 : Int64) (x1 : Int64) : Int32 × SM :=
  lp_Mo_addPart_34 ((8 : Int32).toNatClampNeg + 1) (wL (wL τ 0 ((2132 + (m_Mo_count τ 2)).toNatClampNeg) x0) 0 ((2162 + (m_Mo_count τ 2)).toNatClampNeg) x1) x0 x1 (m_Mo_count τ 2) 0

def k_Mo_addPart (τ : SM) (x0 : Int64) (x1 : Int64) : Prop :=
  (k_Mo_count τ 2) ∧
  (vp_in (2132 + (m_Mo_count τ 2)) (lnML 0)) ∧
  (vp_in (2162 + (m_Mo_count τ 2)) (lnML 0)) ∧
  kl_Mo_addPart_34 ((8 : Int32).toNatClampNeg + 1) (wL (wL τ 0 ((2132 + (m_Mo_count τ 2)).toNatClampNeg) x0) 0 ((2162 + (m_Mo_count τ 2)).toNatClampNeg) x1) x0 x1 (m_Mo_count τ 2) 0

def m_Mo_part (τ : SM) (x0 : Int32) (x1 : Int32) : Int32 × SM :=
  if x0 < 0 then
    (0, (wn τ 0 1))
  else
    if 26 ≤ x0 then
      (0, (wn τ 0 1))
    else
      if x1 ≤ 0 then
        (0, (wn τ 0 1))
      else
        if 9 ≤ x1 then
          (0, (wn τ 0 1))
        else
          if (m_Mo_count (wn τ 0 0) 2) = 30 then
            ((-1), (wn τ 0 0))
          else
            ((m_Mo_addPart (m_Mo_begin (wn τ 0 0)) x0.toInt64 x1.toInt64).1, (m_Mo_done ((m_Mo_addPart (m_Mo_begin (wn τ 0 0)) x0.toInt64 x1.toInt64).2)))

def k_Mo_part (τ : SM) (x0 : Int32) (x1 : Int32) : Prop :=
  if x0 < 0 then
    True
  else
    if 26 ≤ x0 then
      True
    else
      if x1 ≤ 0 then
        True
      else
        if 9 ≤ x1 then
          True
        else
          (k_Mo_count (wn τ 0 0) 2) ∧
          if (m_Mo_count (wn τ 0 0) 2) = 30 then
            True
          else
            (k_Mo_begin (wn τ 0 0)) ∧
            (k_Mo_addPart (m_Mo_begin (wn τ 0 0)) x0.toInt64 x1.toInt64) ∧
            (k_Mo_done ((m_Mo_addPart (m_Mo_begin (wn τ 0 0)) x0.toInt64 x1.toInt64).2)) ∧
            True

def m_Mo_putGate (τ : SM) (x0 : Int32) (x1 : Int32) : SM :=
  (wL (wL (wL τ 0 ((2192 + x0).toNatClampNeg) (x1.toInt64 + 1)) 0 ((2432 + x0).toNatClampNeg) (yL (wL τ 0 ((2192 + x0).toNatClampNeg) (x1.toInt64 + 1)) 0 (6 : Int32).toNatClampNeg)) 0 ((6 : Int32).toNatClampNeg) ((yL (wL (wL τ 0 ((2192 + x0).toNatClampNeg) (x1.toInt64 + 1)) 0 ((2432 + x0).toNatClampNeg) (yL (wL τ 0 ((2192 + x0).toNatClampNeg) (x1.toInt64 + 1)) 0 (6 : Int32).toNatClampNeg)) 0 (6 : Int32).toNatClampNeg) + 1))

def k_Mo_putGate (τ : SM) (x0 : Int32) (x1 : Int32) : Prop :=
  (vp_in (2192 + x0) (lnML 0)) ∧
  (vp_in 6 (lnML 0)) ∧
  (vp_in (2432 + x0) (lnML 0)) ∧
  (vp_in 6 (lnML 0)) ∧
  (vp_in 6 (lnML 0)) ∧
  True

def m_Mo_gate (τ : SM) (x0 : Int32) (x1 : Int32) (x2 : Int32) : Bool × SM :=
  if (bi (m_Mo_isSheet τ x0)) = 0 then
    (false, (wn τ 0 1))
  else
    if (bi (m_Mo_isGate τ x1 x2)) = 0 then
      (false, (wn τ 0 1))
    else
      if (lg_cmp (yL (wn τ 0 0) 0 ((2192 + (8 * x1)) + x2).toNatClampNeg) 0) = 0 then
        if (m_Mo_gatesOn (wn τ 0 0) x0) = 20 then
          (false, (wn τ 0 0))
        else
          (true, (m_Mo_done (m_Mo_putGate (m_Mo_begin (wn τ 0 0)) ((8 * x1) + x2) x0)))
      else
        (false, (wn τ 0 0))

def k_Mo_gate (τ : SM) (x0 : Int32) (x1 : Int32) (x2 : Int32) : Prop :=
  (k_Mo_isSheet τ x0) ∧
  if (bi (m_Mo_isSheet τ x0)) = 0 then
    True
  else
    (k_Mo_isGate τ x1 x2) ∧
    if (bi (m_Mo_isGate τ x1 x2)) = 0 then
      True
    else
      (vp_in ((2192 + (8 * x1)) + x2) (lnML 0)) ∧
      if (lg_cmp (yL (wn τ 0 0) 0 ((2192 + (8 * x1)) + x2).toNatClampNeg) 0) = 0 then
        (k_Mo_gatesOn (wn τ 0 0) x0) ∧
        if (m_Mo_gatesOn (wn τ 0 0) x0) = 20 then
          True
        else
          (k_Mo_begin (wn τ 0 0)) ∧
          (k_Mo_putGate (m_Mo_begin (wn τ 0 0)) ((8 * x1) + x2) x0) ∧
          (k_Mo_done (m_Mo_putGate (m_Mo_begin (wn τ 0 0)) ((8 * x1) + x2) x0)) ∧
          True
      else
        True

section SMW
variable {l : Launch} {D : va_G} {N0 N1 : Nat} {G : Nat → Nat → Nat} {cI cL cQ : ClassId} {rest : va_W}
set_option maxHeartbeats 400000 in
set_option maxRecDepth 100000 in
theorem w_Mo_begin_2 {p : Program} {e : Env} {s : State} {m : MethodId} {args : Array Value} {below : List Frame} {meth : Method} {c : Code} {RES : SM}   (hC : cx D classes (tyL cI cL cQ) NWL ALLW N0 p s m args meth c b_Mo_begin 2 (none) R_Mo) :
    ∀ (n : Nat) (τ : SM) (v1 : Int32), upI n (3842 : Int32) v1 → lp_Mo_begin_2 n τ  v1 = RES → (kl_Mo_begin_2 n τ  v1) = True → ∀ (H : Heap) (locs : List Loc), bd D classes N0 N0 (wsM G cI cL τ rest) s H locs → ∀ (ls : Array Slot), lv_has ls 2 [(0, .ref (G 4 0)), (1, .int v1)] → W p l e { frames := 0, cells := 0, slots := 0, locals := 0 } s m args below meth c H locs 0 0 (MQ below (qx D classes N0 N0 (none) (fun w => w = wsM G cI cL RES rest)) args s 0 0 (ga N0)) (F0 m 2 ls []) := by
  have hx := hC.1
  have hb := hC.2.1
  intro n
  induction n with
  | zero =>
    intro τ v1 hI
    exact absurd hI up_zero
  | succ n ih =>
    intro τ v1 hI hR hk H locs hB ls hl
    rw [lp_Mo_begin_2] at hR
    rw [kl_Mo_begin_2] at hk
    refine lv_iload_n hx hb d_Mo_begin_2 rfl (lv_at hl 1 rfl) ?_
    refine lv_sipush (v := 3842) hx hb d_Mo_begin_3 (by decide) ?_
    refine lv_icmp_ge (tgt := 27) hx hb d_Mo_begin_6 (by decide) (fun c_1 => ?_) (fun c_1 => ?_)
    · rw [if_pos c_1] at hR hk
      subst hR
      exact rv hC hB rfl d_Mo_begin_27
    · rw [if_neg c_1] at hR hk
      refine lv_aload_n hx hb d_Mo_begin_9 rfl (lv_at hl 0 rfl) ?_
      refine gt hC hB _ lkM_o rfl i_Mo 2 (by decide) rfl kw_893 rfl d_Mo_begin_10 ?_
      refine lv_iload_n hx hb d_Mo_begin_13 rfl (lv_at hl 1 rfl) ?_
      refine lv_aload_n hx hb d_Mo_begin_14 rfl (lv_at hl 0 rfl) ?_
      refine gt hC hB _ lkM_o rfl i_Mo 1 (by decide) rfl kw_892 rfl d_Mo_begin_15 ?_
      refine lv_iload_n hx hb d_Mo_begin_18 rfl (lv_at hl 1 rfl) ?_
      refine va_lald hx hb hC.2.2.2.2.2.2.2.1.1 hB.1 _ 1 (lkM_l (by decide : 0 < 4)) rfl (of_eq_true (andL hk)) d_Mo_begin_19 ?_
      replace hk := andR hk
      refine as_l rfl hC hB _ 1 (lkM_l (by decide : 1 < 4)) rfl (of_eq_true (andL hk)) d_Mo_begin_20 (ws' := wsM G cI cL (wL τ 1 v1.toNatClampNeg (yL τ 0 v1.toNatClampNeg)) rest) (setM_l (by decide : 1 < 4) _ _) (fun H locs hB => ?_)
      replace hk := andR hk
      refine lv_iinc (v := (v1 + 1)) (lv' := [(1, .int (v1 + 1)), (0, .ref (G 4 0))]) hx hb d_Mo_begin_21 hl (k := 1) rfl rfl (by decide) rfl (fun ls hl => ?_)
      refine lv_goto (tgt := 2) hx hb d_Mo_begin_24 (by decide) ?_
      exact ih (wL τ 1 v1.toNatClampNeg (yL τ 0 v1.toNatClampNeg)) (v1 + 1) (up_step hI (by assumption)) hR hk _ _ hB ls (lv_sub hl [1, 0] rfl)

set_option maxHeartbeats 400000 in
set_option maxRecDepth 100000 in
theorem c_Mo_begin  (τ : SM)   (hk : (k_Mo_begin τ) = True) : CM l y_Mo_begin b_Mo_begin 2 (none) { frames := 0, cells := 0, slots := 0, locals := 0 } D (tyL cI cL cQ) N0 N0 [.ref (G 4 0)] (wsM G cI cL τ rest) (none) (fun w => w = wsM G cI cL (m_Mo_begin τ) rest) 0 0 := by
  generalize hR : m_Mo_begin τ = RES
  refine met_of (own := R_Mo) (by decide) rfl nwl_ok ?_
  intro p e s m below meth c hC hin hB
  have hx := hC.1
  have hb := hC.2.1
  have hl := lv_entry ([.ref (G 4 0)]) (n := 2) (Nat.le_of_ble_eq_true rfl)
  rw [lg_entry_eq]
  generalize (lg_sl ([.ref (G 4 0)]) ++ List.replicate (2 - (lg_sl ([.ref (G 4 0)])).length) Slot.unset).toArray = ls at hl ⊢
  have hl : lv_has ls 2 [(0, .ref (G 4 0))] := hl
  rw [m_Mo_begin] at hR
  rw [k_Mo_begin] at hk
  refine lv_iconst (v := 0) hx hb d_Mo_begin_0 (by decide) ?_
  refine lv_istore_n (lv' := [(1, .int 0), (0, .ref (G 4 0))]) hx hb d_Mo_begin_1 rfl hl (by decide) rfl (fun ls hl => ?_)
  exact w_Mo_begin_2   hC ((3842 : Int32).toNatClampNeg + 1) τ 0 (up_init _) hR hk _ _ hB ls (lv_sub hl [1, 0] rfl)

set_option maxHeartbeats 400000 in
set_option maxRecDepth 100000 in
theorem w_Mo_giveBack_2 {p : Program} {e : Env} {s : State} {m : MethodId} {args : Array Value} {below : List Frame} {meth : Method} {c : Code} {RES : SM}   (hC : cx D classes (tyL cI cL cQ) NWL ALLW N0 p s m args meth c b_Mo_giveBack 2 (none) R_Mo) :
    ∀ (n : Nat) (τ : SM) (v1 : Int32), upI n (3842 : Int32) v1 → lp_Mo_giveBack_2 n τ  v1 = RES → (kl_Mo_giveBack_2 n τ  v1) = True → ∀ (H : Heap) (locs : List Loc), bd D classes N0 N0 (wsM G cI cL τ rest) s H locs → ∀ (ls : Array Slot), lv_has ls 2 [(0, .ref (G 4 0)), (1, .int v1)] → W p l e { frames := 0, cells := 0, slots := 0, locals := 0 } s m args below meth c H locs 0 0 (MQ below (qx D classes N0 N0 (none) (fun w => w = wsM G cI cL RES rest)) args s 0 0 (ga N0)) (F0 m 2 ls []) := by
  have hx := hC.1
  have hb := hC.2.1
  intro n
  induction n with
  | zero =>
    intro τ v1 hI
    exact absurd hI up_zero
  | succ n ih =>
    intro τ v1 hI hR hk H locs hB ls hl
    rw [lp_Mo_giveBack_2] at hR
    rw [kl_Mo_giveBack_2] at hk
    refine lv_iload_n hx hb d_Mo_giveBack_2 rfl (lv_at hl 1 rfl) ?_
    refine lv_sipush (v := 3842) hx hb d_Mo_giveBack_3 (by decide) ?_
    refine lv_icmp_ge (tgt := 27) hx hb d_Mo_giveBack_6 (by decide) (fun c_1 => ?_) (fun c_1 => ?_)
    · rw [if_pos c_1] at hR hk
      refine lv_aload_n hx hb d_Mo_giveBack_27 rfl (lv_at hl 0 rfl) ?_
      refine lv_iconst (v := 0) hx hb d_Mo_giveBack_28 (by decide) ?_
      refine pt (ty := .boolean) rfl hC hB _ lkM_o rfl i_Mo t_Mo t_Mo_ok n_Mo 7 (by decide) rfl rfl kw_898 (by decide +kernel) rfl rfl (Nat.le_of_ble_eq_true rfl) d_Mo_giveBack_29 (ws' := wsM G cI cL (wf τ false) rest) (setM_f (b := false)) (fun H locs hB => ?_)
      subst hR
      exact rv hC hB rfl d_Mo_giveBack_32
    · rw [if_neg c_1] at hR hk
      refine lv_aload_n hx hb d_Mo_giveBack_9 rfl (lv_at hl 0 rfl) ?_
      refine gt hC hB _ lkM_o rfl i_Mo 1 (by decide) rfl kw_892 rfl d_Mo_giveBack_10 ?_
      refine lv_iload_n hx hb d_Mo_giveBack_13 rfl (lv_at hl 1 rfl) ?_
      refine lv_aload_n hx hb d_Mo_giveBack_14 rfl (lv_at hl 0 rfl) ?_
      refine gt hC hB _ lkM_o rfl i_Mo 2 (by decide) rfl kw_893 rfl d_Mo_giveBack_15 ?_
      refine lv_iload_n hx hb d_Mo_giveBack_18 rfl (lv_at hl 1 rfl) ?_
      refine va_lald hx hb hC.2.2.2.2.2.2.2.1.1 hB.1 _ 1 (lkM_l (by decide : 1 < 4)) rfl (of_eq_true (andL hk)) d_Mo_giveBack_19 ?_
      replace hk := andR hk
      refine as_l rfl hC hB _ 1 (lkM_l (by decide : 0 < 4)) rfl (of_eq_true (andL hk)) d_Mo_giveBack_20 (ws' := wsM G cI cL (wL τ 0 v1.toNatClampNeg (yL τ 1 v1.toNatClampNeg)) rest) (setM_l (by decide : 0 < 4) _ _) (fun H locs hB => ?_)
      replace hk := andR hk
      refine lv_iinc (v := (v1 + 1)) (lv' := [(1, .int (v1 + 1)), (0, .ref (G 4 0))]) hx hb d_Mo_giveBack_21 hl (k := 1) rfl rfl (by decide) rfl (fun ls hl => ?_)
      refine lv_goto (tgt := 2) hx hb d_Mo_giveBack_24 (by decide) ?_
      exact ih (wL τ 0 v1.toNatClampNeg (yL τ 1 v1.toNatClampNeg)) (v1 + 1) (up_step hI (by assumption)) hR hk _ _ hB ls (lv_sub hl [1, 0] rfl)

set_option maxHeartbeats 400000 in
set_option maxRecDepth 100000 in
theorem c_Mo_giveBack  (τ : SM)   (hk : (k_Mo_giveBack τ) = True) : CM l y_Mo_giveBack b_Mo_giveBack 2 (none) { frames := 0, cells := 0, slots := 0, locals := 0 } D (tyL cI cL cQ) N0 N0 [.ref (G 4 0)] (wsM G cI cL τ rest) (none) (fun w => w = wsM G cI cL (m_Mo_giveBack τ) rest) 0 0 := by
  generalize hR : m_Mo_giveBack τ = RES
  refine met_of (own := R_Mo) (by decide) rfl nwl_ok ?_
  intro p e s m below meth c hC hin hB
  have hx := hC.1
  have hb := hC.2.1
  have hl := lv_entry ([.ref (G 4 0)]) (n := 2) (Nat.le_of_ble_eq_true rfl)
  rw [lg_entry_eq]
  generalize (lg_sl ([.ref (G 4 0)]) ++ List.replicate (2 - (lg_sl ([.ref (G 4 0)])).length) Slot.unset).toArray = ls at hl ⊢
  have hl : lv_has ls 2 [(0, .ref (G 4 0))] := hl
  rw [m_Mo_giveBack] at hR
  rw [k_Mo_giveBack] at hk
  refine lv_iconst (v := 0) hx hb d_Mo_giveBack_0 (by decide) ?_
  refine lv_istore_n (lv' := [(1, .int 0), (0, .ref (G 4 0))]) hx hb d_Mo_giveBack_1 rfl hl (by decide) rfl (fun ls hl => ?_)
  exact w_Mo_giveBack_2   hC ((3842 : Int32).toNatClampNeg + 1) τ 0 (up_init _) hR hk _ _ hB ls (lv_sub hl [1, 0] rfl)

set_option maxHeartbeats 400000 in
set_option maxRecDepth 100000 in
theorem w_Mo_done_15 {p : Program} {e : Env} {s : State} {m : MethodId} {args : Array Value} {below : List Frame} {meth : Method} {c : Code} {RES : SM}   (hC : cx D classes (tyL cI cL cQ) NWL ALLW N0 p s m args meth c b_Mo_done 3 (none) R_Mo) :
    ∀ (n : Nat) (τ : SM) (v1 : Int32) (v2 : Int32), upI n (3842 : Int32) v2 → lp_Mo_done_15 n τ  v1 v2 = RES → (kl_Mo_done_15 n τ  v1 v2) = True → ∀ (H : Heap) (locs : List Loc), bd D classes N0 N0 (wsM G cI cL τ rest) s H locs → ∀ (ls : Array Slot), lv_has ls 3 [(0, .ref (G 4 0)), (1, .int v1), (2, .int v2)] → W p l e { frames := 0, cells := 0, slots := 0, locals := 0 } s m args below meth c H locs 0 0 (MQ below (qx D classes N0 N0 (none) (fun w => w = wsM G cI cL RES rest)) args s 0 0 (ga N0)) (F0 m 15 ls []) := by
  have hx := hC.1
  have hb := hC.2.1
  intro n
  induction n with
  | zero =>
    intro τ v1 v2 hI
    exact absurd hI up_zero
  | succ n ih =>
    intro τ v1 v2 hI hR hk H locs hB ls hl
    rw [lp_Mo_done_15] at hR
    rw [kl_Mo_done_15] at hk
    refine lv_iload_n hx hb d_Mo_done_15 rfl (lv_at hl 2 rfl) ?_
    refine lv_sipush (v := 3842) hx hb d_Mo_done_16 (by decide) ?_
    refine lv_icmp_ge (tgt := 46) hx hb d_Mo_done_19 (by decide) (fun c_1 => ?_) (fun c_1 => ?_)
    · rw [if_pos c_1] at hR hk
      refine lv_aload_n hx hb d_Mo_done_46 rfl (lv_at hl 0 rfl) ?_
      refine gt (v := .int (yn τ 1)) hC hB _ lkM_o rfl i_Mo 4 (by decide) rfl kw_895 rfl d_Mo_done_47 ?_
      refine lv_bipush (v := 50) hx hb d_Mo_done_50 (by decide) ?_
      refine lv_icmp_ne (tgt := 71) hx hb d_Mo_done_52 (by decide) (fun c_2 => ?_) (fun c_2 => ?_)
      · rw [if_neg c_2] at hR hk
        refine lv_aload_n hx hb d_Mo_done_71 rfl (lv_at hl 0 rfl) ?_
        refine lv_dup hx hb d_Mo_done_72 rfl ?_
        refine gt (v := .int (yn τ 1)) hC hB _ lkM_o rfl i_Mo 4 (by decide) rfl kw_895 rfl d_Mo_done_73 ?_
        refine lv_iconst (v := 1) hx hb d_Mo_done_76 (by decide) ?_
        refine lv_iadd hx hb d_Mo_done_77 ?_
        refine pt (ty := .int) rfl hC hB _ lkM_o rfl i_Mo t_Mo t_Mo_ok n_Mo 4 (by decide) rfl rfl kw_895 (by decide +kernel) rfl rfl (Nat.le_of_ble_eq_true rfl) d_Mo_done_78 (ws' := wsM G cI cL (wn τ 1 ((yn τ 1) + 1)) rest) setM_n1 (fun H locs hB => ?_)
        refine lv_aload_n hx hb d_Mo_done_81 rfl (lv_at hl 0 rfl) ?_
        refine lv_iconst (v := 0) hx hb d_Mo_done_82 (by decide) ?_
        refine pt (ty := .boolean) rfl hC hB _ lkM_o rfl i_Mo t_Mo t_Mo_ok n_Mo 7 (by decide) rfl rfl kw_898 (by decide +kernel) rfl rfl (Nat.le_of_ble_eq_true rfl) d_Mo_done_83 (ws' := wsM G cI cL (wf (wn τ 1 ((yn τ 1) + 1)) false) rest) (setM_f (b := false)) (fun H locs hB => ?_)
        subst hR
        exact rv hC hB rfl d_Mo_done_86
      · rw [if_pos c_2] at hR hk
        refine lv_aload_n hx hb d_Mo_done_55 rfl (lv_at hl 0 rfl) ?_
        refine lv_aload_n hx hb d_Mo_done_56 rfl (lv_at hl 0 rfl) ?_
        refine gt (v := .int (yn τ 2)) hC hB _ lkM_o rfl i_Mo 5 (by decide) rfl kw_896 rfl d_Mo_done_57 ?_
        refine lv_iconst (v := 1) hx hb d_Mo_done_60 (by decide) ?_
        refine lv_iadd hx hb d_Mo_done_61 ?_
        refine lv_bipush (v := 50) hx hb d_Mo_done_62 (by decide) ?_
        refine lv_irem hx hb d_Mo_done_64 (by decide) ?_
        refine pt (ty := .int) rfl hC hB _ lkM_o rfl i_Mo t_Mo t_Mo_ok n_Mo 5 (by decide) rfl rfl kw_896 (by decide +kernel) rfl rfl (Nat.le_of_ble_eq_true rfl) d_Mo_done_65 (ws' := wsM G cI cL (wn τ 2 (((yn τ 2) + 1) - ((yn τ 2) + 1) / 50 * 50)) rest) setM_n2 (fun H locs hB => ?_)
        refine lv_goto (tgt := 81) hx hb d_Mo_done_68 (by decide) ?_
        refine lv_aload_n hx hb d_Mo_done_81 rfl (lv_at hl 0 rfl) ?_
        refine lv_iconst (v := 0) hx hb d_Mo_done_82 (by decide) ?_
        refine pt (ty := .boolean) rfl hC hB _ lkM_o rfl i_Mo t_Mo t_Mo_ok n_Mo 7 (by decide) rfl rfl kw_898 (by decide +kernel) rfl rfl (Nat.le_of_ble_eq_true rfl) d_Mo_done_83 (ws' := wsM G cI cL (wf (wn τ 2 (((yn τ 2) + 1) - ((yn τ 2) + 1) / 50 * 50)) false) rest) (setM_f (b := false)) (fun H locs hB => ?_)
        subst hR
        exact rv hC hB rfl d_Mo_done_86
    · rw [if_neg c_1] at hR hk
      refine lv_aload_n hx hb d_Mo_done_22 rfl (lv_at hl 0 rfl) ?_
      refine gt hC hB _ lkM_o rfl i_Mo 3 (by decide) rfl kw_894 rfl d_Mo_done_23 ?_
      refine lv_sipush (v := 3842) hx hb d_Mo_done_26 (by decide) ?_
      refine lv_iload_n hx hb d_Mo_done_29 rfl (lv_at hl 1 rfl) ?_
      refine lv_imul hx hb d_Mo_done_30 ?_
      refine lv_iload_n hx hb d_Mo_done_31 rfl (lv_at hl 2 rfl) ?_
      refine lv_iadd hx hb d_Mo_done_32 ?_
      refine lv_aload_n hx hb d_Mo_done_33 rfl (lv_at hl 0 rfl) ?_
      refine gt hC hB _ lkM_o rfl i_Mo 2 (by decide) rfl kw_893 rfl d_Mo_done_34 ?_
      refine lv_iload_n hx hb d_Mo_done_37 rfl (lv_at hl 2 rfl) ?_
      refine va_lald hx hb hC.2.2.2.2.2.2.2.1.1 hB.1 _ 1 (lkM_l (by decide : 1 < 4)) rfl (of_eq_true (andL hk)) d_Mo_done_38 ?_
      replace hk := andR hk
      refine as_l rfl hC hB _ 1 (lkM_l (by decide : 2 < 4)) rfl (of_eq_true (andL hk)) d_Mo_done_39 (ws' := wsM G cI cL (wL τ 2 (((3842 * v1) + v2).toNatClampNeg) (yL τ 1 v2.toNatClampNeg)) rest) (setM_l (by decide : 2 < 4) _ _) (fun H locs hB => ?_)
      replace hk := andR hk
      refine lv_iinc (v := (v2 + 1)) (lv' := [(2, .int (v2 + 1)), (0, .ref (G 4 0)), (1, .int v1)]) hx hb d_Mo_done_40 hl (k := 2) rfl rfl (by decide) rfl (fun ls hl => ?_)
      refine lv_goto (tgt := 15) hx hb d_Mo_done_43 (by decide) ?_
      exact ih (wL τ 2 (((3842 * v1) + v2).toNatClampNeg) (yL τ 1 v2.toNatClampNeg)) v1 (v2 + 1) (up_step hI (by assumption)) hR hk _ _ hB ls (lv_sub hl [1, 2, 0] rfl)

set_option maxHeartbeats 400000 in
set_option maxRecDepth 100000 in
theorem c_Mo_done  (τ : SM)   (hk : (k_Mo_done τ) = True) : CM l y_Mo_done b_Mo_done 3 (none) { frames := 0, cells := 0, slots := 0, locals := 0 } D (tyL cI cL cQ) N0 N0 [.ref (G 4 0)] (wsM G cI cL τ rest) (none) (fun w => w = wsM G cI cL (m_Mo_done τ) rest) 0 0 := by
  generalize hR : m_Mo_done τ = RES
  refine met_of (own := R_Mo) (by decide) rfl nwl_ok ?_
  intro p e s m below meth c hC hin hB
  have hx := hC.1
  have hb := hC.2.1
  have hl := lv_entry ([.ref (G 4 0)]) (n := 3) (Nat.le_of_ble_eq_true rfl)
  rw [lg_entry_eq]
  generalize (lg_sl ([.ref (G 4 0)]) ++ List.replicate (3 - (lg_sl ([.ref (G 4 0)])).length) Slot.unset).toArray = ls at hl ⊢
  have hl : lv_has ls 3 [(0, .ref (G 4 0))] := hl
  rw [m_Mo_done] at hR
  rw [k_Mo_done] at hk
  refine lv_aload_n hx hb d_Mo_done_0 rfl (lv_at hl 0 rfl) ?_
  refine gt (v := .int (yn τ 2)) hC hB _ lkM_o rfl i_Mo 5 (by decide) rfl kw_896 rfl d_Mo_done_1 ?_
  refine lv_aload_n hx hb d_Mo_done_4 rfl (lv_at hl 0 rfl) ?_
  refine gt (v := .int (yn τ 1)) hC hB _ lkM_o rfl i_Mo 4 (by decide) rfl kw_895 rfl d_Mo_done_5 ?_
  refine lv_iadd hx hb d_Mo_done_8 ?_
  refine lv_bipush (v := 50) hx hb d_Mo_done_9 (by decide) ?_
  refine lv_irem hx hb d_Mo_done_11 (by decide) ?_
  refine lv_istore_n (lv' := [(1, .int (((yn τ 2) + (yn τ 1)) - ((yn τ 2) + (yn τ 1)) / 50 * 50)), (0, .ref (G 4 0))]) hx hb d_Mo_done_12 rfl hl (by decide) rfl (fun ls hl => ?_)
  refine lv_iconst (v := 0) hx hb d_Mo_done_13 (by decide) ?_
  refine lv_istore_n (lv' := [(2, .int 0), (1, .int (((yn τ 2) + (yn τ 1)) - ((yn τ 2) + (yn τ 1)) / 50 * 50)), (0, .ref (G 4 0))]) hx hb d_Mo_done_14 rfl hl (by decide) rfl (fun ls hl => ?_)
  exact w_Mo_done_15   hC ((3842 : Int32).toNatClampNeg + 1) τ (((yn τ 2) + (yn τ 1)) - ((yn τ 2) + (yn τ 1)) / 50 * 50) 0 (up_init _) hR hk _ _ hB ls (lv_sub hl [2, 1, 0] rfl)

set_option maxHeartbeats 400000 in
set_option maxRecDepth 100000 in
theorem w_Mo_undo_39 {p : Program} {e : Env} {s : State} {m : MethodId} {args : Array Value} {below : List Frame} {meth : Method} {c : Code} {RES : Bool × SM}   (hC : cx D classes (tyL cI cL cQ) NWL ALLW N0 p s m args meth c b_Mo_undo 3 (some .boolean) R_Mo) :
    ∀ (n : Nat) (τ : SM) (v1 : Int32) (v2 : Int32), upI n (3842 : Int32) v2 → lp_Mo_undo_39 n τ  v1 v2 = RES → (kl_Mo_undo_39 n τ  v1 v2) = True → ∀ (H : Heap) (locs : List Loc), bd D classes N0 N0 (wsM G cI cL τ rest) s H locs → ∀ (ls : Array Slot), lv_has ls 3 [(0, .ref (G 4 0)), (1, .int v1), (2, .int v2)] → W p l e { frames := 0, cells := 0, slots := 0, locals := 0 } s m args below meth c H locs 0 0 (MQ below (qx D classes N0 N0 (some (.int (bi RES.1))) (fun w => w = wsM G cI cL RES.2 rest)) args s 0 0 (ga N0)) (F0 m 39 ls []) := by
  obtain ⟨RV, RS⟩ := RES
  dsimp only
  have hx := hC.1
  have hb := hC.2.1
  intro n
  induction n with
  | zero =>
    intro τ v1 v2 hI
    exact absurd hI up_zero
  | succ n ih =>
    intro τ v1 v2 hI hR hk H locs hB ls hl
    rw [lp_Mo_undo_39] at hR
    rw [kl_Mo_undo_39] at hk
    refine lv_iload_n hx hb d_Mo_undo_39 rfl (lv_at hl 2 rfl) ?_
    refine lv_sipush (v := 3842) hx hb d_Mo_undo_40 (by decide) ?_
    refine lv_icmp_ge (tgt := 70) hx hb d_Mo_undo_43 (by decide) (fun c_1 => ?_) (fun c_1 => ?_)
    · rw [if_pos c_1] at hR hk
      refine lv_aload_n hx hb d_Mo_undo_70 rfl (lv_at hl 0 rfl) ?_
      refine lv_iconst (v := 0) hx hb d_Mo_undo_71 (by decide) ?_
      refine pt (ty := .int) rfl hC hB _ lkM_o rfl i_Mo t_Mo t_Mo_ok n_Mo 6 (by decide) rfl rfl kw_897 (by decide +kernel) rfl rfl (Nat.le_of_ble_eq_true rfl) d_Mo_undo_72 (ws' := wsM G cI cL (wn τ 3 0) rest) setM_n3 (fun H locs hB => ?_)
      refine lv_aload_n hx hb d_Mo_undo_75 rfl (lv_at hl 0 rfl) ?_
      refine lv_iconst (v := 0) hx hb d_Mo_undo_76 (by decide) ?_
      refine pt (ty := .boolean) rfl hC hB _ lkM_o rfl i_Mo t_Mo t_Mo_ok n_Mo 7 (by decide) rfl rfl kw_898 (by decide +kernel) rfl rfl (Nat.le_of_ble_eq_true rfl) d_Mo_undo_77 (ws' := wsM G cI cL (wf (wn τ 3 0) false) rest) (setM_f (b := false)) (fun H locs hB => ?_)
      refine lv_iconst (v := 1) hx hb d_Mo_undo_80 (by decide) ?_
      obtain ⟨rfl, rfl⟩ := Prod.mk.inj hR
      exact rz (b := true) hC hB rfl d_Mo_undo_81
    · rw [if_neg c_1] at hR hk
      refine lv_aload_n hx hb d_Mo_undo_46 rfl (lv_at hl 0 rfl) ?_
      refine gt hC hB _ lkM_o rfl i_Mo 1 (by decide) rfl kw_892 rfl d_Mo_undo_47 ?_
      refine lv_iload_n hx hb d_Mo_undo_50 rfl (lv_at hl 2 rfl) ?_
      refine lv_aload_n hx hb d_Mo_undo_51 rfl (lv_at hl 0 rfl) ?_
      refine gt hC hB _ lkM_o rfl i_Mo 3 (by decide) rfl kw_894 rfl d_Mo_undo_52 ?_
      refine lv_sipush (v := 3842) hx hb d_Mo_undo_55 (by decide) ?_
      refine lv_iload_n hx hb d_Mo_undo_58 rfl (lv_at hl 1 rfl) ?_
      refine lv_imul hx hb d_Mo_undo_59 ?_
      refine lv_iload_n hx hb d_Mo_undo_60 rfl (lv_at hl 2 rfl) ?_
      refine lv_iadd hx hb d_Mo_undo_61 ?_
      refine va_lald hx hb hC.2.2.2.2.2.2.2.1.1 hB.1 _ 1 (lkM_l (by decide : 2 < 4)) rfl (of_eq_true (andL hk)) d_Mo_undo_62 ?_
      replace hk := andR hk
      refine as_l rfl hC hB _ 1 (lkM_l (by decide : 0 < 4)) rfl (of_eq_true (andL hk)) d_Mo_undo_63 (ws' := wsM G cI cL (wL τ 0 v2.toNatClampNeg (yL τ 2 ((3842 * v1) + v2).toNatClampNeg)) rest) (setM_l (by decide : 0 < 4) _ _) (fun H locs hB => ?_)
      replace hk := andR hk
      refine lv_iinc (v := (v2 + 1)) (lv' := [(2, .int (v2 + 1)), (0, .ref (G 4 0)), (1, .int v1)]) hx hb d_Mo_undo_64 hl (k := 2) rfl rfl (by decide) rfl (fun ls hl => ?_)
      refine lv_goto (tgt := 39) hx hb d_Mo_undo_67 (by decide) ?_
      exact ih (wL τ 0 v2.toNatClampNeg (yL τ 2 ((3842 * v1) + v2).toNatClampNeg)) v1 (v2 + 1) (up_step hI (by assumption)) hR hk _ _ hB ls (lv_sub hl [1, 2, 0] rfl)

set_option maxHeartbeats 400000 in
set_option maxRecDepth 100000 in
theorem c_Mo_undo  (τ : SM)   (hk : (k_Mo_undo τ) = True) : CM l y_Mo_undo b_Mo_undo 3 (some .boolean) { frames := 0, cells := 0, slots := 0, locals := 0 } D (tyL cI cL cQ) N0 N0 [.ref (G 4 0)] (wsM G cI cL τ rest) (some (.int (bi ((m_Mo_undo τ).1)))) (fun w => w = wsM G cI cL ((m_Mo_undo τ).2) rest) 0 0 := by
  generalize hR : m_Mo_undo τ = RES
  obtain ⟨RV, RS⟩ := RES
  dsimp only
  refine met_of (own := R_Mo) (by decide) rfl nwl_ok ?_
  intro p e s m below meth c hC hin hB
  have hx := hC.1
  have hb := hC.2.1
  have hl := lv_entry ([.ref (G 4 0)]) (n := 3) (Nat.le_of_ble_eq_true rfl)
  rw [lg_entry_eq]
  generalize (lg_sl ([.ref (G 4 0)]) ++ List.replicate (3 - (lg_sl ([.ref (G 4 0)])).length) Slot.unset).toArray = ls at hl ⊢
  have hl : lv_has ls 3 [(0, .ref (G 4 0))] := hl
  rw [m_Mo_undo] at hR
  rw [k_Mo_undo] at hk
  refine lv_aload_n hx hb d_Mo_undo_0 rfl (lv_at hl 0 rfl) ?_
  refine lv_iconst (v := 0) hx hb d_Mo_undo_1 (by decide) ?_
  refine pt (ty := .int) rfl hC hB _ lkM_o rfl i_Mo t_Mo t_Mo_ok n_Mo 0 (by decide) rfl rfl kw_891 (by decide +kernel) rfl rfl (Nat.le_of_ble_eq_true rfl) d_Mo_undo_2 (ws' := wsM G cI cL (wn τ 0 0) rest) setM_n0 (fun H locs hB => ?_)
  refine lv_aload_n hx hb d_Mo_undo_5 rfl (lv_at hl 0 rfl) ?_
  refine gt (v := .int (yn τ 1)) hC hB _ lkM_o rfl i_Mo 4 (by decide) rfl kw_895 rfl d_Mo_undo_6 ?_
  refine lv_if_ne (tgt := 14) hx hb d_Mo_undo_9 (by decide) (fun c_1 => ?_) (fun c_1 => ?_)
  · rw [if_neg c_1] at hR hk
    refine lv_aload_n hx hb d_Mo_undo_14 rfl (lv_at hl 0 rfl) ?_
    refine lv_dup hx hb d_Mo_undo_15 rfl ?_
    refine gt (v := .int (yn τ 1)) hC hB _ lkM_o rfl i_Mo 4 (by decide) rfl kw_895 rfl d_Mo_undo_16 ?_
    refine lv_iconst (v := 1) hx hb d_Mo_undo_19 (by decide) ?_
    refine lv_isub hx hb d_Mo_undo_20 ?_
    refine pt (ty := .int) rfl hC hB _ lkM_o rfl i_Mo t_Mo t_Mo_ok n_Mo 4 (by decide) rfl rfl kw_895 (by decide +kernel) rfl rfl (Nat.le_of_ble_eq_true rfl) d_Mo_undo_21 (ws' := wsM G cI cL (wn (wn τ 0 0) 1 ((yn τ 1) - 1)) rest) setM_n1 (fun H locs hB => ?_)
    refine lv_aload_n hx hb d_Mo_undo_24 rfl (lv_at hl 0 rfl) ?_
    refine gt (v := .int (yn τ 2)) hC hB _ lkM_o rfl i_Mo 5 (by decide) rfl kw_896 rfl d_Mo_undo_25 ?_
    refine lv_aload_n hx hb d_Mo_undo_28 rfl (lv_at hl 0 rfl) ?_
    refine gt (v := .int ((yn τ 1) - 1)) hC hB _ lkM_o rfl i_Mo 4 (by decide) rfl kw_895 rfl d_Mo_undo_29 ?_
    refine lv_iadd hx hb d_Mo_undo_32 ?_
    refine lv_bipush (v := 50) hx hb d_Mo_undo_33 (by decide) ?_
    refine lv_irem hx hb d_Mo_undo_35 (by decide) ?_
    refine lv_istore_n (lv' := [(1, .int (((yn τ 2) + ((yn τ 1) - 1)) - ((yn τ 2) + ((yn τ 1) - 1)) / 50 * 50)), (0, .ref (G 4 0))]) hx hb d_Mo_undo_36 rfl hl (by decide) rfl (fun ls hl => ?_)
    refine lv_iconst (v := 0) hx hb d_Mo_undo_37 (by decide) ?_
    refine lv_istore_n (lv' := [(2, .int 0), (1, .int (((yn τ 2) + ((yn τ 1) - 1)) - ((yn τ 2) + ((yn τ 1) - 1)) / 50 * 50)), (0, .ref (G 4 0))]) hx hb d_Mo_undo_38 rfl hl (by decide) rfl (fun ls hl => ?_)
    exact w_Mo_undo_39   hC ((3842 : Int32).toNatClampNeg + 1) (wn (wn τ 0 0) 1 ((yn τ 1) - 1)) (((yn τ 2) + ((yn τ 1) - 1)) - ((yn τ 2) + ((yn τ 1) - 1)) / 50 * 50) 0 (up_init _) hR hk _ _ hB ls (lv_sub hl [2, 1, 0] rfl)
  · rw [if_pos c_1] at hR hk
    refine lv_iconst (v := 0) hx hb d_Mo_undo_12 (by decide) ?_
    obtain ⟨rfl, rfl⟩ := Prod.mk.inj hR
    exact rz (b := false) hC hB rfl d_Mo_undo_13

set_option maxHeartbeats 400000 in
set_option maxRecDepth 100000 in
theorem c_Mo_addPage  (τ : SM)  (x0 : Int32) (x1 : Int32) (x2 : Int32) (x3 : Int32) (hk : (k_Mo_addPage τ x0 x1 x2 x3) = True) : CM l y_Mo_addPage b_Mo_addPage 5 (none) { frames := 0, cells := 0, slots := 0, locals := 0 } D (tyL cI cL cQ) N0 N0 [.ref (G 4 0), .int x0, .int x1, .int x2, .int x3] (wsM G cI cL τ rest) (none) (fun w => w = wsM G cI cL (m_Mo_addPage τ x0 x1 x2 x3) rest) 0 0 := by
  generalize hR : m_Mo_addPage τ x0 x1 x2 x3 = RES
  refine met_of (own := R_Mo) (by decide) rfl nwl_ok ?_
  intro p e s m below meth c hC hin hB
  have hx := hC.1
  have hb := hC.2.1
  have hl := lv_entry ([.ref (G 4 0), .int x0, .int x1, .int x2, .int x3]) (n := 5) (Nat.le_of_ble_eq_true rfl)
  rw [lg_entry_eq]
  generalize (lg_sl ([.ref (G 4 0), .int x0, .int x1, .int x2, .int x3]) ++ List.replicate (5 - (lg_sl ([.ref (G 4 0), .int x0, .int x1, .int x2, .int x3])).length) Slot.unset).toArray = ls at hl ⊢
  have hl : lv_has ls 5 [(0, .ref (G 4 0)), (1, .int x0), (2, .int x1), (3, .int x2), (4, .int x3)] := hl
  rw [m_Mo_addPage] at hR
  rw [k_Mo_addPage] at hk
  refine lv_aload_n hx hb d_Mo_addPage_0 rfl (lv_at hl 0 rfl) ?_
  refine gt hC hB _ lkM_o rfl i_Mo 9 (by decide) rfl kw_900 rfl d_Mo_addPage_1 ?_
  refine lv_aload_n hx hb d_Mo_addPage_4 rfl (lv_at hl 0 rfl) ?_
  refine gt (v := .int (yn τ 4)) hC hB _ lkM_o rfl i_Mo 8 (by decide) rfl kw_899 rfl d_Mo_addPage_5 ?_
  refine lv_iload_n hx hb d_Mo_addPage_8 rfl (lv_at hl 1 rfl) ?_
  refine as_i rfl hC hB _ 0 (lkM_i (by decide : 0 < 7)) rfl (of_eq_true (andL hk)) d_Mo_addPage_9 (ws' := wsM G cI cL (wI τ 0 ((yn τ 4).toNatClampNeg) x0) rest) (setM_i (by decide : 0 < 7) _ _) (fun H locs hB => ?_)
  replace hk := andR hk
  refine lv_aload_n hx hb d_Mo_addPage_10 rfl (lv_at hl 0 rfl) ?_
  refine gt hC hB _ lkM_o rfl i_Mo 10 (by decide) rfl kw_901 rfl d_Mo_addPage_11 ?_
  refine lv_aload_n hx hb d_Mo_addPage_14 rfl (lv_at hl 0 rfl) ?_
  refine gt (v := .int (yn τ 4)) hC hB _ lkM_o rfl i_Mo 8 (by decide) rfl kw_899 rfl d_Mo_addPage_15 ?_
  refine lv_iload_n hx hb d_Mo_addPage_18 rfl (lv_at hl 2 rfl) ?_
  refine as_i rfl hC hB _ 0 (lkM_i (by decide : 1 < 7)) rfl (of_eq_true (andL hk)) d_Mo_addPage_19 (ws' := wsM G cI cL (wI (wI τ 0 ((yn τ 4).toNatClampNeg) x0) 1 ((yn τ 4).toNatClampNeg) x1) rest) (setM_i (by decide : 1 < 7) _ _) (fun H locs hB => ?_)
  replace hk := andR hk
  refine lv_aload_n hx hb d_Mo_addPage_20 rfl (lv_at hl 0 rfl) ?_
  refine gt hC hB _ lkM_o rfl i_Mo 11 (by decide) rfl kw_902 rfl d_Mo_addPage_21 ?_
  refine lv_aload_n hx hb d_Mo_addPage_24 rfl (lv_at hl 0 rfl) ?_
  refine gt (v := .int (yn τ 4)) hC hB _ lkM_o rfl i_Mo 8 (by decide) rfl kw_899 rfl d_Mo_addPage_25 ?_
  refine lv_iload_n hx hb d_Mo_addPage_28 rfl (lv_at hl 3 rfl) ?_
  refine as_i rfl hC hB _ 0 (lkM_i (by decide : 2 < 7)) rfl (of_eq_true (andL hk)) d_Mo_addPage_29 (ws' := wsM G cI cL (wI (wI (wI τ 0 ((yn τ 4).toNatClampNeg) x0) 1 ((yn τ 4).toNatClampNeg) x1) 2 ((yn τ 4).toNatClampNeg) x2) rest) (setM_i (by decide : 2 < 7) _ _) (fun H locs hB => ?_)
  replace hk := andR hk
  refine lv_aload_n hx hb d_Mo_addPage_30 rfl (lv_at hl 0 rfl) ?_
  refine gt hC hB _ lkM_o rfl i_Mo 12 (by decide) rfl kw_903 rfl d_Mo_addPage_31 ?_
  refine lv_aload_n hx hb d_Mo_addPage_34 rfl (lv_at hl 0 rfl) ?_
  refine gt (v := .int (yn τ 4)) hC hB _ lkM_o rfl i_Mo 8 (by decide) rfl kw_899 rfl d_Mo_addPage_35 ?_
  refine lv_iload hx hb d_Mo_addPage_38 (lv_at hl 4 rfl) ?_
  refine as_i rfl hC hB _ 0 (lkM_i (by decide : 3 < 7)) rfl (of_eq_true (andL hk)) d_Mo_addPage_40 (ws' := wsM G cI cL (wI (wI (wI (wI τ 0 ((yn τ 4).toNatClampNeg) x0) 1 ((yn τ 4).toNatClampNeg) x1) 2 ((yn τ 4).toNatClampNeg) x2) 3 ((yn τ 4).toNatClampNeg) x3) rest) (setM_i (by decide : 3 < 7) _ _) (fun H locs hB => ?_)
  replace hk := andR hk
  refine lv_aload_n hx hb d_Mo_addPage_41 rfl (lv_at hl 0 rfl) ?_
  refine lv_dup hx hb d_Mo_addPage_42 rfl ?_
  refine gt (v := .int (yn τ 4)) hC hB _ lkM_o rfl i_Mo 8 (by decide) rfl kw_899 rfl d_Mo_addPage_43 ?_
  refine lv_iconst (v := 1) hx hb d_Mo_addPage_46 (by decide) ?_
  refine lv_iadd hx hb d_Mo_addPage_47 ?_
  refine pt (ty := .int) rfl hC hB _ lkM_o rfl i_Mo t_Mo t_Mo_ok n_Mo 8 (by decide) rfl rfl kw_899 (by decide +kernel) rfl rfl (Nat.le_of_ble_eq_true rfl) d_Mo_addPage_48 (ws' := wsM G cI cL (wn (wI (wI (wI (wI τ 0 ((yn τ 4).toNatClampNeg) x0) 1 ((yn τ 4).toNatClampNeg) x1) 2 ((yn τ 4).toNatClampNeg) x2) 3 ((yn τ 4).toNatClampNeg) x3) 4 ((yn τ 4) + 1)) rest) setM_n4 (fun H locs hB => ?_)
  subst hR
  exact rv hC hB rfl d_Mo_addPage_51

set_option maxHeartbeats 400000 in
set_option maxRecDepth 100000 in
theorem w_Mo_turn_31 {p : Program} {e : Env} {s : State} {m : MethodId} {args : Array Value} {below : List Frame} {meth : Method} {c : Code} {RES : SM}   (hC : cx D classes (tyL cI cL cQ) NWL ALLW N0 p s m args meth c b_Mo_turn 4 (none) R_Mo) :
    ∀ (n : Nat) (τ : SM) (v1 : Int32), True → lp_Mo_turn_31 n τ  v1 = RES → (kl_Mo_turn_31 n τ  v1) = True → ∀ (H : Heap) (locs : List Loc), bd D classes N0 N0 (wsM G cI cL τ rest) s H locs → ∀ (ls : Array Slot), lv_has ls 4 [(0, .ref (G 4 0)), (1, .int v1)] → W p l e { frames := 2, cells := 0, slots := 0, locals := 46 } s m args below meth c H locs 0 0 (MQ below (qx D classes N0 N0 (none) (fun w => w = wsM G cI cL RES rest)) args s 0 0 (ga N0)) (F0 m 31 ls []) := by
  have hx := hC.1
  have hb := hC.2.1
  intro n
  induction n with
  | zero =>
    intro τ v1 hI hR hk
    exact False.elim (of_eq_true hk)
  | succ n ih =>
    intro τ v1 hI hR hk H locs hB ls hl
    rw [lp_Mo_turn_31] at hR
    rw [kl_Mo_turn_31] at hk
    refine lv_iload_n hx hb d_Mo_turn_31 rfl (lv_at hl 1 rfl) ?_
    refine lv_if_lt (tgt := 142) hx hb d_Mo_turn_32 (by decide) (fun c_1 => ?_) (fun c_1 => ?_)
    · rw [if_pos c_1] at hR hk
      refine lv_aload_n hx hb d_Mo_turn_142 rfl (lv_at hl 0 rfl) ?_
      refine lv_iconst (v := 1) hx hb d_Mo_turn_143 (by decide) ?_
      refine pt (ty := .boolean) rfl hC hB _ lkM_o rfl i_Mo t_Mo t_Mo_ok n_Mo 7 (by decide) rfl rfl kw_898 (by decide +kernel) rfl rfl (Nat.le_of_ble_eq_true rfl) d_Mo_turn_144 (ws' := wsM G cI cL (wf τ true) rest) (setM_f (b := true)) (fun H locs hB => ?_)
      subst hR
      exact rv hC hB rfl d_Mo_turn_147
    · rw [if_neg c_1] at hR hk
      refine lv_aload_n hx hb d_Mo_turn_35 rfl (lv_at hl 0 rfl) ?_
      refine gt (v := .int (yn τ 4)) hC hB _ lkM_o rfl i_Mo 8 (by decide) rfl kw_899 rfl d_Mo_turn_36 ?_
      refine lv_sipush (v := 300) hx hb d_Mo_turn_39 (by decide) ?_
      refine lv_icmp_gt (tgt := 142) hx hb d_Mo_turn_42 (by decide) (fun c_2 => ?_) (fun c_2 => ?_)
      · rw [if_pos c_2] at hR hk
        refine lv_aload_n hx hb d_Mo_turn_142 rfl (lv_at hl 0 rfl) ?_
        refine lv_iconst (v := 1) hx hb d_Mo_turn_143 (by decide) ?_
        refine pt (ty := .boolean) rfl hC hB _ lkM_o rfl i_Mo t_Mo t_Mo_ok n_Mo 7 (by decide) rfl rfl kw_898 (by decide +kernel) rfl rfl (Nat.le_of_ble_eq_true rfl) d_Mo_turn_144 (ws' := wsM G cI cL (wf τ true) rest) (setM_f (b := true)) (fun H locs hB => ?_)
        subst hR
        exact rv hC hB rfl d_Mo_turn_147
      · rw [if_neg c_2] at hR hk
        refine lv_aload_n hx hb d_Mo_turn_45 rfl (lv_at hl 0 rfl) ?_
        refine gt hC hB _ lkM_o rfl i_Mo 14 (by decide) rfl kw_905 rfl d_Mo_turn_46 ?_
        refine lv_iload_n hx hb d_Mo_turn_49 rfl (lv_at hl 1 rfl) ?_
        refine va_iald hx hb hC.2.2.2.2.2.2.2.1.1 hB.1 _ 0 (lkM_i (by decide : 5 < 7)) rfl (of_eq_true (andL hk)) d_Mo_turn_50 ?_
        replace hk := andR hk
        refine lv_istore_n (lv' := [(2, .int (yI τ 5 v1.toNatClampNeg)), (0, .ref (G 4 0)), (1, .int v1)]) hx hb d_Mo_turn_51 rfl hl (by decide) rfl (fun ls hl => ?_)
        refine lv_aload_n hx hb d_Mo_turn_52 rfl (lv_at hl 1 rfl) ?_
        refine lv_aload_n hx hb d_Mo_turn_53 rfl (lv_at hl 1 rfl) ?_
        refine gt hC hB _ lkM_o rfl i_Mo 9 (by decide) rfl kw_900 rfl d_Mo_turn_54 ?_
        refine lv_iload_n hx hb d_Mo_turn_57 rfl (lv_at hl 0 rfl) ?_
        refine va_iald hx hb hC.2.2.2.2.2.2.2.1.1 hB.1 _ 0 (lkM_i (by decide : 0 < 7)) rfl (of_eq_true (andL hk)) d_Mo_turn_58 ?_
        replace hk := andR hk
        refine lv_aload_n hx hb d_Mo_turn_59 rfl (lv_at hl 1 rfl) ?_
        refine gt hC hB _ lkM_o rfl i_Mo 15 (by decide) rfl kw_906 rfl d_Mo_turn_60 ?_
        refine lv_iload_n hx hb d_Mo_turn_63 rfl (lv_at hl 2 rfl) ?_
        refine va_lald hx hb hC.2.2.2.2.2.2.2.1.1 hB.1 _ 1 (lkM_l (by decide : 3 < 4)) rfl (of_eq_true (andL hk)) d_Mo_turn_64 ?_
        replace hk := andR hk
        refine kV hC hB _ lkM_o rfl (c_Mo_next τ  (yI τ 0 (yI τ 5 v1.toNatClampNeg).toNatClampNeg) (yL τ 3 v1.toNatClampNeg) (andL hk)) allw_ok mf_Mo_next kw_1004 ks_38 kw_1002 ⟨rfl, rfl, Nat.le_of_ble_eq_true rfl, Nat.le_of_ble_eq_true rfl⟩ rfl rfl hl.1 (Nat.le_of_ble_eq_true rfl) d_Mo_turn_65 ⟨Nat.le_of_ble_eq_true rfl, Nat.le_of_ble_eq_true rfl⟩ (roK fun H locs hB => ?_)
        replace hk := andR hk
        refine lv_istore_n (lv' := [(3, .int (m_Mo_next τ (yI τ 0 (yI τ 5 v1.toNatClampNeg).toNatClampNeg) (yL τ 3 v1.toNatClampNeg))), (2, .int (yI τ 5 v1.toNatClampNeg)), (0, .ref (G 4 0)), (1, .int v1)]) hx hb d_Mo_turn_68 rfl hl (by decide) rfl (fun ls hl => ?_)
        refine lv_iload_n hx hb d_Mo_turn_69 rfl (lv_at hl 0 rfl) ?_
        refine lv_iconst (v := (-1)) hx hb d_Mo_turn_70 (by decide) ?_
        refine lv_icmp_ne (tgt := 80) hx hb d_Mo_turn_71 (by decide) (fun c_3 => ?_) (fun c_3 => ?_)
        · rw [if_neg c_3] at hR hk
          refine lv_aload_n hx hb d_Mo_turn_80 rfl (lv_at hl 2 rfl) ?_
          refine gt hC hB _ lkM_o rfl i_Mo 15 (by decide) rfl kw_906 rfl d_Mo_turn_81 ?_
          refine lv_iload_n hx hb d_Mo_turn_84 rfl (lv_at hl 3 rfl) ?_
          refine lv_aload_n hx hb d_Mo_turn_85 rfl (lv_at hl 2 rfl) ?_
          refine gt hC hB _ lkM_o rfl i_Mo 1 (by decide) rfl kw_892 rfl d_Mo_turn_86 ?_
          refine lv_sipush (v := 152) hx hb d_Mo_turn_89 (by decide) ?_
          refine lv_iload_n hx hb d_Mo_turn_92 rfl (lv_at hl 0 rfl) ?_
          refine lv_iadd hx hb d_Mo_turn_93 ?_
          refine va_lald hx hb hC.2.2.2.2.2.2.2.1.1 hB.1 _ 1 (lkM_l (by decide : 0 < 4)) rfl (of_eq_true (andL hk)) d_Mo_turn_94 ?_
          replace hk := andR hk
          refine as_l rfl hC hB _ 1 (lkM_l (by decide : 3 < 4)) rfl (of_eq_true (andL hk)) d_Mo_turn_95 (ws' := wsM G cI cL (wL τ 3 v1.toNatClampNeg (yL τ 0 (152 + (m_Mo_next τ (yI τ 0 (yI τ 5 v1.toNatClampNeg).toNatClampNeg) (yL τ 3 v1.toNatClampNeg))).toNatClampNeg)) rest) (setM_l (by decide : 3 < 4) _ _) (fun H locs hB => ?_)
          replace hk := andR hk
          refine lv_aload_n hx hb d_Mo_turn_96 rfl (lv_at hl 2 rfl) ?_
          refine lv_aload_n hx hb d_Mo_turn_97 rfl (lv_at hl 2 rfl) ?_
          refine gt hC hB _ lkM_o rfl i_Mo 1 (by decide) rfl kw_892 rfl d_Mo_turn_98 ?_
          refine lv_bipush (v := 92) hx hb d_Mo_turn_101 (by decide) ?_
          refine lv_iload_n hx hb d_Mo_turn_103 rfl (lv_at hl 0 rfl) ?_
          refine lv_iadd hx hb d_Mo_turn_104 ?_
          refine va_lald hx hb hC.2.2.2.2.2.2.2.1.1 hB.1 _ 1 (lkM_l (by decide : 0 < 4)) rfl (of_eq_true (andL hk)) d_Mo_turn_105 ?_
          replace hk := andR hk
          refine lv_l2i hx hb d_Mo_turn_106 rfl ?_
          refine lv_iload_n hx hb d_Mo_turn_107 rfl (lv_at hl 0 rfl) ?_
          refine lv_iload_n hx hb d_Mo_turn_108 rfl (lv_at hl 1 rfl) ?_
          refine lv_iload_n hx hb d_Mo_turn_109 rfl (lv_at hl 3 rfl) ?_
          refine lv_iconst (v := 1) hx hb d_Mo_turn_110 (by decide) ?_
          refine lv_iadd hx hb d_Mo_turn_111 ?_
          refine kV hC hB _ lkM_o rfl (c_Mo_addPage (wL τ 3 v1.toNatClampNeg (yL τ 0 (152 + (m_Mo_next τ (yI τ 0 (yI τ 5 v1.toNatClampNeg).toNatClampNeg) (yL τ 3 v1.toNatClampNeg))).toNatClampNeg))  ((yL (wL τ 3 v1.toNatClampNeg (yL τ 0 (152 + (m_Mo_next τ (yI τ 0 (yI τ 5 v1.toNatClampNeg).toNatClampNeg) (yL τ 3 v1.toNatClampNeg))).toNatClampNeg)) 0 (92 + (m_Mo_next τ (yI τ 0 (yI τ 5 v1.toNatClampNeg).toNatClampNeg) (yL τ 3 v1.toNatClampNeg))).toNatClampNeg).toInt32) (m_Mo_next τ (yI τ 0 (yI τ 5 v1.toNatClampNeg).toNatClampNeg) (yL τ 3 v1.toNatClampNeg)) (yI τ 5 v1.toNatClampNeg) (v1 + 1) (andL hk)) allw_ok mf_Mo_addPage kw_999 ks_37 kw_997 ⟨rfl, rfl, Nat.le_of_ble_eq_true rfl, Nat.le_of_ble_eq_true rfl⟩ rfl rfl hl.1 (Nat.le_of_ble_eq_true rfl) d_Mo_turn_112 ⟨Nat.le_of_ble_eq_true rfl, Nat.le_of_ble_eq_true rfl⟩ (roK fun H locs hB => ?_)
          replace hk := andR hk
          refine lv_iinc (v := (v1 + 1)) (lv' := [(1, .int (v1 + 1)), (3, .int (m_Mo_next τ (yI τ 0 (yI τ 5 v1.toNatClampNeg).toNatClampNeg) (yL τ 3 v1.toNatClampNeg))), (2, .int (yI τ 5 v1.toNatClampNeg)), (0, .ref (G 4 0))]) hx hb d_Mo_turn_115 hl (k := 3) rfl rfl (by decide) rfl (fun ls hl => ?_)
          refine lv_aload_n hx hb d_Mo_turn_118 rfl (lv_at hl 3 rfl) ?_
          refine gt hC hB _ lkM_o rfl i_Mo 14 (by decide) rfl kw_905 rfl d_Mo_turn_119 ?_
          refine lv_iload_n hx hb d_Mo_turn_122 rfl (lv_at hl 0 rfl) ?_
          refine lv_aload_n hx hb d_Mo_turn_123 rfl (lv_at hl 3 rfl) ?_
          refine gt (v := .int (yn (m_Mo_addPage (wL τ 3 v1.toNatClampNeg (yL τ 0 (152 + (m_Mo_next τ (yI τ 0 (yI τ 5 v1.toNatClampNeg).toNatClampNeg) (yL τ 3 v1.toNatClampNeg))).toNatClampNeg)) ((yL (wL τ 3 v1.toNatClampNeg (yL τ 0 (152 + (m_Mo_next τ (yI τ 0 (yI τ 5 v1.toNatClampNeg).toNatClampNeg) (yL τ 3 v1.toNatClampNeg))).toNatClampNeg)) 0 (92 + (m_Mo_next τ (yI τ 0 (yI τ 5 v1.toNatClampNeg).toNatClampNeg) (yL τ 3 v1.toNatClampNeg))).toNatClampNeg).toInt32) (m_Mo_next τ (yI τ 0 (yI τ 5 v1.toNatClampNeg).toNatClampNeg) (yL τ 3 v1.toNatClampNeg)) (yI τ 5 v1.toNatClampNeg) (v1 + 1)) 4)) hC hB _ lkM_o rfl i_Mo 8 (by decide) rfl kw_899 rfl d_Mo_turn_124 ?_
          refine lv_iconst (v := 1) hx hb d_Mo_turn_127 (by decide) ?_
          refine lv_isub hx hb d_Mo_turn_128 ?_
          refine as_i rfl hC hB _ 0 (lkM_i (by decide : 5 < 7)) rfl (of_eq_true (andL hk)) d_Mo_turn_129 (ws' := wsM G cI cL (wI (m_Mo_addPage (wL τ 3 v1.toNatClampNeg (yL τ 0 (152 + (m_Mo_next τ (yI τ 0 (yI τ 5 v1.toNatClampNeg).toNatClampNeg) (yL τ 3 v1.toNatClampNeg))).toNatClampNeg)) ((yL (wL τ 3 v1.toNatClampNeg (yL τ 0 (152 + (m_Mo_next τ (yI τ 0 (yI τ 5 v1.toNatClampNeg).toNatClampNeg) (yL τ 3 v1.toNatClampNeg))).toNatClampNeg)) 0 (92 + (m_Mo_next τ (yI τ 0 (yI τ 5 v1.toNatClampNeg).toNatClampNeg) (yL τ 3 v1.toNatClampNeg))).toNatClampNeg).toInt32) (m_Mo_next τ (yI τ 0 (yI τ 5 v1.toNatClampNeg).toNatClampNeg) (yL τ 3 v1.toNatClampNeg)) (yI τ 5 v1.toNatClampNeg) (v1 + 1)) 5 ((v1 + 1).toNatClampNeg) ((yn (m_Mo_addPage (wL τ 3 v1.toNatClampNeg (yL τ 0 (152 + (m_Mo_next τ (yI τ 0 (yI τ 5 v1.toNatClampNeg).toNatClampNeg) (yL τ 3 v1.toNatClampNeg))).toNatClampNeg)) ((yL (wL τ 3 v1.toNatClampNeg (yL τ 0 (152 + (m_Mo_next τ (yI τ 0 (yI τ 5 v1.toNatClampNeg).toNatClampNeg) (yL τ 3 v1.toNatClampNeg))).toNatClampNeg)) 0 (92 + (m_Mo_next τ (yI τ 0 (yI τ 5 v1.toNatClampNeg).toNatClampNeg) (yL τ 3 v1.toNatClampNeg))).toNatClampNeg).toInt32) (m_Mo_next τ (yI τ 0 (yI τ 5 v1.toNatClampNeg).toNatClampNeg) (yL τ 3 v1.toNatClampNeg)) (yI τ 5 v1.toNatClampNeg) (v1 + 1)) 4) - 1)) rest) (setM_i (by decide : 5 < 7) _ _) (fun H locs hB => ?_)
          replace hk := andR hk
          refine lv_aload_n hx hb d_Mo_turn_130 rfl (lv_at hl 3 rfl) ?_
          refine gt hC hB _ lkM_o rfl i_Mo 15 (by decide) rfl kw_906 rfl d_Mo_turn_131 ?_
          refine lv_iload_n hx hb d_Mo_turn_134 rfl (lv_at hl 0 rfl) ?_
          refine lv_ldc2 (v := (-1)) hx hb hC.2.2.2.2.1 (hC.2.2.2.2.2.1 _ kw_1001) d_Mo_turn_135 ?_
          refine as_l rfl hC hB _ 1 (lkM_l (by decide : 3 < 4)) rfl (of_eq_true (andL hk)) d_Mo_turn_138 (ws' := wsM G cI cL (wL (wI (m_Mo_addPage (wL τ 3 v1.toNatClampNeg (yL τ 0 (152 + (m_Mo_next τ (yI τ 0 (yI τ 5 v1.toNatClampNeg).toNatClampNeg) (yL τ 3 v1.toNatClampNeg))).toNatClampNeg)) ((yL (wL τ 3 v1.toNatClampNeg (yL τ 0 (152 + (m_Mo_next τ (yI τ 0 (yI τ 5 v1.toNatClampNeg).toNatClampNeg) (yL τ 3 v1.toNatClampNeg))).toNatClampNeg)) 0 (92 + (m_Mo_next τ (yI τ 0 (yI τ 5 v1.toNatClampNeg).toNatClampNeg) (yL τ 3 v1.toNatClampNeg))).toNatClampNeg).toInt32) (m_Mo_next τ (yI τ 0 (yI τ 5 v1.toNatClampNeg).toNatClampNeg) (yL τ 3 v1.toNatClampNeg)) (yI τ 5 v1.toNatClampNeg) (v1 + 1)) 5 ((v1 + 1).toNatClampNeg) ((yn (m_Mo_addPage (wL τ 3 v1.toNatClampNeg (yL τ 0 (152 + (m_Mo_next τ (yI τ 0 (yI τ 5 v1.toNatClampNeg).toNatClampNeg) (yL τ 3 v1.toNatClampNeg))).toNatClampNeg)) ((yL (wL τ 3 v1.toNatClampNeg (yL τ 0 (152 + (m_Mo_next τ (yI τ 0 (yI τ 5 v1.toNatClampNeg).toNatClampNeg) (yL τ 3 v1.toNatClampNeg))).toNatClampNeg)) 0 (92 + (m_Mo_next τ (yI τ 0 (yI τ 5 v1.toNatClampNeg).toNatClampNeg) (yL τ 3 v1.toNatClampNeg))).toNatClampNeg).toInt32) (m_Mo_next τ (yI τ 0 (yI τ 5 v1.toNatClampNeg).toNatClampNeg) (yL τ 3 v1.toNatClampNeg)) (yI τ 5 v1.toNatClampNeg) (v1 + 1)) 4) - 1)) 3 ((v1 + 1).toNatClampNeg) (-1)) rest) (setM_l (by decide : 3 < 4) _ _) (fun H locs hB => ?_)
          replace hk := andR hk
          refine lv_goto (tgt := 31) hx hb d_Mo_turn_139 (by decide) ?_
          exact ih (wL (wI (m_Mo_addPage (wL τ 3 v1.toNatClampNeg (yL τ 0 (152 + (m_Mo_next τ (yI τ 0 (yI τ 5 v1.toNatClampNeg).toNatClampNeg) (yL τ 3 v1.toNatClampNeg))).toNatClampNeg)) ((yL (wL τ 3 v1.toNatClampNeg (yL τ 0 (152 + (m_Mo_next τ (yI τ 0 (yI τ 5 v1.toNatClampNeg).toNatClampNeg) (yL τ 3 v1.toNatClampNeg))).toNatClampNeg)) 0 (92 + (m_Mo_next τ (yI τ 0 (yI τ 5 v1.toNatClampNeg).toNatClampNeg) (yL τ 3 v1.toNatClampNeg))).toNatClampNeg).toInt32) (m_Mo_next τ (yI τ 0 (yI τ 5 v1.toNatClampNeg).toNatClampNeg) (yL τ 3 v1.toNatClampNeg)) (yI τ 5 v1.toNatClampNeg) (v1 + 1)) 5 ((v1 + 1).toNatClampNeg) ((yn (m_Mo_addPage (wL τ 3 v1.toNatClampNeg (yL τ 0 (152 + (m_Mo_next τ (yI τ 0 (yI τ 5 v1.toNatClampNeg).toNatClampNeg) (yL τ 3 v1.toNatClampNeg))).toNatClampNeg)) ((yL (wL τ 3 v1.toNatClampNeg (yL τ 0 (152 + (m_Mo_next τ (yI τ 0 (yI τ 5 v1.toNatClampNeg).toNatClampNeg) (yL τ 3 v1.toNatClampNeg))).toNatClampNeg)) 0 (92 + (m_Mo_next τ (yI τ 0 (yI τ 5 v1.toNatClampNeg).toNatClampNeg) (yL τ 3 v1.toNatClampNeg))).toNatClampNeg).toInt32) (m_Mo_next τ (yI τ 0 (yI τ 5 v1.toNatClampNeg).toNatClampNeg) (yL τ 3 v1.toNatClampNeg)) (yI τ 5 v1.toNatClampNeg) (v1 + 1)) 4) - 1)) 3 ((v1 + 1).toNatClampNeg) (-1)) (v1 + 1) (trivial) hR hk _ _ hB ls (lv_sub hl [3, 0] rfl)
        · rw [if_pos c_3] at hR hk
          refine lv_iinc (v := (v1 + (-1))) (lv' := [(1, .int (v1 + (-1))), (3, .int (m_Mo_next τ (yI τ 0 (yI τ 5 v1.toNatClampNeg).toNatClampNeg) (yL τ 3 v1.toNatClampNeg))), (2, .int (yI τ 5 v1.toNatClampNeg)), (0, .ref (G 4 0))]) hx hb d_Mo_turn_74 hl (k := 3) rfl rfl (by decide) rfl (fun ls hl => ?_)
          refine lv_goto (tgt := 139) hx hb d_Mo_turn_77 (by decide) ?_
          refine lv_goto (tgt := 31) hx hb d_Mo_turn_139 (by decide) ?_
          exact ih τ (v1 + (-1)) (trivial) hR hk _ _ hB ls (lv_sub hl [3, 0] rfl)

set_option maxHeartbeats 400000 in
set_option maxRecDepth 100000 in
theorem c_Mo_turn  (τ : SM)   (hk : (k_Mo_turn τ) = True) : CM l y_Mo_turn b_Mo_turn 4 (none) { frames := 2, cells := 0, slots := 0, locals := 46 } D (tyL cI cL cQ) N0 N0 [.ref (G 4 0)] (wsM G cI cL τ rest) (none) (fun w => w = wsM G cI cL (m_Mo_turn τ) rest) 0 0 := by
  generalize hR : m_Mo_turn τ = RES
  refine met_of (own := R_Mo) (by decide) rfl nwl_ok ?_
  intro p e s m below meth c hC hin hB
  have hx := hC.1
  have hb := hC.2.1
  have hl := lv_entry ([.ref (G 4 0)]) (n := 4) (Nat.le_of_ble_eq_true rfl)
  rw [lg_entry_eq]
  generalize (lg_sl ([.ref (G 4 0)]) ++ List.replicate (4 - (lg_sl ([.ref (G 4 0)])).length) Slot.unset).toArray = ls at hl ⊢
  have hl : lv_has ls 4 [(0, .ref (G 4 0))] := hl
  rw [m_Mo_turn] at hR
  rw [k_Mo_turn] at hk
  refine lv_aload_n hx hb d_Mo_turn_0 rfl (lv_at hl 0 rfl) ?_
  refine lv_iconst (v := 0) hx hb d_Mo_turn_1 (by decide) ?_
  refine pt (ty := .int) rfl hC hB _ lkM_o rfl i_Mo t_Mo t_Mo_ok n_Mo 8 (by decide) rfl rfl kw_899 (by decide +kernel) rfl rfl (Nat.le_of_ble_eq_true rfl) d_Mo_turn_2 (ws' := wsM G cI cL (wn τ 4 0) rest) setM_n4 (fun H locs hB => ?_)
  refine lv_aload_n hx hb d_Mo_turn_5 rfl (lv_at hl 0 rfl) ?_
  refine lv_iconst (v := 0) hx hb d_Mo_turn_6 (by decide) ?_
  refine lv_iconst (v := (-1)) hx hb d_Mo_turn_7 (by decide) ?_
  refine lv_iconst (v := (-1)) hx hb d_Mo_turn_8 (by decide) ?_
  refine lv_iconst (v := 0) hx hb d_Mo_turn_9 (by decide) ?_
  refine kV hC hB _ lkM_o rfl (c_Mo_addPage (wn τ 4 0)  0 (-1) (-1) 0 (andL hk)) allw_ok mf_Mo_addPage kw_999 ks_37 kw_997 ⟨rfl, rfl, Nat.le_of_ble_eq_true rfl, Nat.le_of_ble_eq_true rfl⟩ rfl rfl hl.1 (Nat.le_of_ble_eq_true rfl) d_Mo_turn_10 ⟨Nat.le_of_ble_eq_true rfl, Nat.le_of_ble_eq_true rfl⟩ (roK fun H locs hB => ?_)
  replace hk := andR hk
  refine lv_iconst (v := 0) hx hb d_Mo_turn_13 (by decide) ?_
  refine lv_istore_n (lv' := [(1, .int 0), (0, .ref (G 4 0))]) hx hb d_Mo_turn_14 rfl hl (by decide) rfl (fun ls hl => ?_)
  refine lv_aload_n hx hb d_Mo_turn_15 rfl (lv_at hl 1 rfl) ?_
  refine gt hC hB _ lkM_o rfl i_Mo 14 (by decide) rfl kw_905 rfl d_Mo_turn_16 ?_
  refine lv_iconst (v := 0) hx hb d_Mo_turn_19 (by decide) ?_
  refine lv_iconst (v := 0) hx hb d_Mo_turn_20 (by decide) ?_
  refine as_i rfl hC hB _ 0 (lkM_i (by decide : 5 < 7)) rfl (of_eq_true (andL hk)) d_Mo_turn_21 (ws' := wsM G cI cL (wI (m_Mo_addPage (wn τ 4 0) 0 (-1) (-1) 0) 5 ((0 : Int32).toNatClampNeg) 0) rest) (setM_i (by decide : 5 < 7) _ _) (fun H locs hB => ?_)
  replace hk := andR hk
  refine lv_aload_n hx hb d_Mo_turn_22 rfl (lv_at hl 1 rfl) ?_
  refine gt hC hB _ lkM_o rfl i_Mo 15 (by decide) rfl kw_906 rfl d_Mo_turn_23 ?_
  refine lv_iconst (v := 0) hx hb d_Mo_turn_26 (by decide) ?_
  refine lv_ldc2 (v := (-1)) hx hb hC.2.2.2.2.1 (hC.2.2.2.2.2.1 _ kw_1001) d_Mo_turn_27 ?_
  refine as_l rfl hC hB _ 1 (lkM_l (by decide : 3 < 4)) rfl (of_eq_true (andL hk)) d_Mo_turn_30 (ws' := wsM G cI cL (wL (wI (m_Mo_addPage (wn τ 4 0) 0 (-1) (-1) 0) 5 ((0 : Int32).toNatClampNeg) 0) 3 ((0 : Int32).toNatClampNeg) (-1)) rest) (setM_l (by decide : 3 < 4) _ _) (fun H locs hB => ?_)
  replace hk := andR hk
  exact w_Mo_turn_31   hC 700 (wL (wI (m_Mo_addPage (wn τ 4 0) 0 (-1) (-1) 0) 5 ((0 : Int32).toNatClampNeg) 0) 3 ((0 : Int32).toNatClampNeg) (-1)) 0 (trivial) hR hk _ _ hB ls (lv_sub hl [1, 0] rfl)

set_option maxHeartbeats 400000 in
set_option maxRecDepth 100000 in
theorem c_Mo_look  (τ : SM)   (hk : (k_Mo_look τ) = True) : CM l y_Mo_look b_Mo_look 1 (none) { frames := 3, cells := 0, slots := 0, locals := 69 } D (tyL cI cL cQ) N0 N0 [.ref (G 4 0)] (wsM G cI cL τ rest) (none) (fun w => w = wsM G cI cL (m_Mo_look τ) rest) 0 0 := by
  generalize hR : m_Mo_look τ = RES
  refine met_of (own := R_Mo) (by decide) rfl nwl_ok ?_
  intro p e s m below meth c hC hin hB
  have hx := hC.1
  have hb := hC.2.1
  have hl := lv_entry ([.ref (G 4 0)]) (n := 1) (Nat.le_of_ble_eq_true rfl)
  rw [lg_entry_eq]
  generalize (lg_sl ([.ref (G 4 0)]) ++ List.replicate (1 - (lg_sl ([.ref (G 4 0)])).length) Slot.unset).toArray = ls at hl ⊢
  have hl : lv_has ls 1 [(0, .ref (G 4 0))] := hl
  rw [m_Mo_look] at hR
  rw [k_Mo_look] at hk
  refine lv_aload_n hx hb d_Mo_look_0 rfl (lv_at hl 0 rfl) ?_
  refine gt (v := .int (bi (yf τ))) hC hB _ lkM_o rfl i_Mo 7 (by decide) rfl kw_898 rfl d_Mo_look_1 ?_
  refine lv_if_ne (tgt := 11) hx hb d_Mo_look_4 (by decide) (fun c_1 => ?_) (fun c_1 => ?_)
  · rw [if_neg c_1] at hR hk
    subst hR
    exact rv hC hB rfl d_Mo_look_11
  · rw [if_pos c_1] at hR hk
    refine lv_aload_n hx hb d_Mo_look_7 rfl (lv_at hl 0 rfl) ?_
    refine kV hC hB _ lkM_o rfl (c_Mo_turn τ  (andL hk)) allw_ok mf_Mo_turn kw_995 ks_36 kw_993 ⟨rfl, rfl, Nat.le_of_ble_eq_true rfl, Nat.le_of_ble_eq_true rfl⟩ rfl rfl hl.1 (Nat.le_of_ble_eq_true rfl) d_Mo_look_8 ⟨Nat.le_of_ble_eq_true rfl, Nat.le_of_ble_eq_true rfl⟩ (roK fun H locs hB => ?_)
    replace hk := andR hk
    subst hR
    exact rv hC hB rfl d_Mo_look_11

set_option maxHeartbeats 400000 in
set_option maxRecDepth 100000 in
theorem c_Mo_isPage  (τ : SM)  (x0 : Int32) (hk : (k_Mo_isPage τ x0) = True) : CM l y_Mo_isPage b_Mo_isPage 2 (some .boolean) { frames := 4, cells := 0, slots := 0, locals := 89 } D (tyL cI cL cQ) N0 N0 [.ref (G 4 0), .int x0] (wsM G cI cL τ rest) (some (.int (bi ((m_Mo_isPage τ x0).1)))) (fun w => w = wsM G cI cL ((m_Mo_isPage τ x0).2) rest) 0 0 := by
  generalize hR : m_Mo_isPage τ x0 = RES
  obtain ⟨RV, RS⟩ := RES
  dsimp only
  refine met_of (own := R_Mo) (by decide) rfl nwl_ok ?_
  intro p e s m below meth c hC hin hB
  have hx := hC.1
  have hb := hC.2.1
  have hl := lv_entry ([.ref (G 4 0), .int x0]) (n := 2) (Nat.le_of_ble_eq_true rfl)
  rw [lg_entry_eq]
  generalize (lg_sl ([.ref (G 4 0), .int x0]) ++ List.replicate (2 - (lg_sl ([.ref (G 4 0), .int x0])).length) Slot.unset).toArray = ls at hl ⊢
  have hl : lv_has ls 2 [(0, .ref (G 4 0)), (1, .int x0)] := hl
  rw [m_Mo_isPage] at hR
  rw [k_Mo_isPage] at hk
  refine lv_aload_n hx hb d_Mo_isPage_0 rfl (lv_at hl 0 rfl) ?_
  refine kV hC hB _ lkM_o rfl (c_Mo_look τ  (andL hk)) allw_ok mf_Mo_look kw_1115 ks_53 kw_1113 ⟨rfl, rfl, Nat.le_of_ble_eq_true rfl, Nat.le_of_ble_eq_true rfl⟩ rfl rfl hl.1 (Nat.le_of_ble_eq_true rfl) d_Mo_isPage_1 ⟨Nat.le_of_ble_eq_true rfl, Nat.le_of_ble_eq_true rfl⟩ (roK fun H locs hB => ?_)
  replace hk := andR hk
  refine lv_iload_n hx hb d_Mo_isPage_4 rfl (lv_at hl 1 rfl) ?_
  refine lv_if_lt (tgt := 20) hx hb d_Mo_isPage_5 (by decide) (fun c_1 => ?_) (fun c_1 => ?_)
  · rw [if_pos c_1] at hR hk
    refine lv_iconst (v := 0) hx hb d_Mo_isPage_20 (by decide) ?_
    obtain ⟨rfl, rfl⟩ := Prod.mk.inj hR
    exact rz (b := false) hC hB rfl d_Mo_isPage_21
  · rw [if_neg c_1] at hR hk
    refine lv_iload_n hx hb d_Mo_isPage_8 rfl (lv_at hl 1 rfl) ?_
    refine lv_aload_n hx hb d_Mo_isPage_9 rfl (lv_at hl 0 rfl) ?_
    refine gt (v := .int (yn (m_Mo_look τ) 4)) hC hB _ lkM_o rfl i_Mo 8 (by decide) rfl kw_899 rfl d_Mo_isPage_10 ?_
    refine lv_icmp_ge (tgt := 20) hx hb d_Mo_isPage_13 (by decide) (fun c_2 => ?_) (fun c_2 => ?_)
    · rw [if_pos c_2] at hR hk
      refine lv_iconst (v := 0) hx hb d_Mo_isPage_20 (by decide) ?_
      obtain ⟨rfl, rfl⟩ := Prod.mk.inj hR
      exact rz (b := false) hC hB rfl d_Mo_isPage_21
    · rw [if_neg c_2] at hR hk
      refine lv_iconst (v := 1) hx hb d_Mo_isPage_16 (by decide) ?_
      refine lv_goto (tgt := 21) hx hb d_Mo_isPage_17 (by decide) ?_
      obtain ⟨rfl, rfl⟩ := Prod.mk.inj hR
      exact rz (b := true) hC hB rfl d_Mo_isPage_21

set_option maxHeartbeats 400000 in
set_option maxRecDepth 100000 in
theorem c_Mo_hasRoom  (τ : SM)   (hk : (k_Mo_hasRoom τ) = True) : CM l y_Mo_hasRoom b_Mo_hasRoom 2 (some .boolean) { frames := 3, cells := 0, slots := 0, locals := 69 } D (tyL cI cL cQ) N0 N0 [.ref (G 4 0)] (wsM G cI cL τ rest) (some (.int (bi ((m_Mo_hasRoom τ).1)))) (fun w => w = wsM G cI cL ((m_Mo_hasRoom τ).2) rest) 0 0 := by
  generalize hR : m_Mo_hasRoom τ = RES
  obtain ⟨RV, RS⟩ := RES
  dsimp only
  refine met_of (own := R_Mo) (by decide) rfl nwl_ok ?_
  intro p e s m below meth c hC hin hB
  have hx := hC.1
  have hb := hC.2.1
  have hl := lv_entry ([.ref (G 4 0)]) (n := 2) (Nat.le_of_ble_eq_true rfl)
  rw [lg_entry_eq]
  generalize (lg_sl ([.ref (G 4 0)]) ++ List.replicate (2 - (lg_sl ([.ref (G 4 0)])).length) Slot.unset).toArray = ls at hl ⊢
  have hl : lv_has ls 2 [(0, .ref (G 4 0))] := hl
  rw [m_Mo_hasRoom] at hR
  rw [k_Mo_hasRoom] at hk
  refine lv_aload_n hx hb d_Mo_hasRoom_0 rfl (lv_at hl 0 rfl) ?_
  refine kV hC hB _ lkM_o rfl (c_Mo_turn τ  (andL hk)) allw_ok mf_Mo_turn kw_995 ks_36 kw_993 ⟨rfl, rfl, Nat.le_of_ble_eq_true rfl, Nat.le_of_ble_eq_true rfl⟩ rfl rfl hl.1 (Nat.le_of_ble_eq_true rfl) d_Mo_hasRoom_1 ⟨Nat.le_of_ble_eq_true rfl, Nat.le_of_ble_eq_true rfl⟩ (roK fun H locs hB => ?_)
  replace hk := andR hk
  refine lv_aload_n hx hb d_Mo_hasRoom_4 rfl (lv_at hl 0 rfl) ?_
  refine gt (v := .int (yn (m_Mo_turn τ) 4)) hC hB _ lkM_o rfl i_Mo 8 (by decide) rfl kw_899 rfl d_Mo_hasRoom_5 ?_
  refine lv_sipush (v := 300) hx hb d_Mo_hasRoom_8 (by decide) ?_
  refine lv_icmp_gt (tgt := 18) hx hb d_Mo_hasRoom_11 (by decide) (fun c_1 => ?_) (fun c_1 => ?_)
  · rw [if_pos c_1] at hR hk
    refine lv_iconst (v := 0) hx hb d_Mo_hasRoom_18 (by decide) ?_
    refine lv_istore_n (lv' := [(1, .int 0), (0, .ref (G 4 0))]) hx hb d_Mo_hasRoom_19 rfl hl (by decide) rfl (fun ls hl => ?_)
    refine lv_aload_n hx hb d_Mo_hasRoom_20 rfl (lv_at hl 1 rfl) ?_
    refine lv_iload_n hx hb d_Mo_hasRoom_21 rfl (lv_at hl 0 rfl) ?_
    refine pt (ty := .boolean) rfl hC hB _ lkM_o rfl i_Mo t_Mo t_Mo_ok n_Mo 7 (by decide) rfl rfl kw_898 (by decide +kernel) rfl rfl (Nat.le_of_ble_eq_true rfl) d_Mo_hasRoom_22 (ws' := wsM G cI cL (wf (m_Mo_turn τ) false) rest) (setM_f (b := false)) (fun H locs hB => ?_)
    refine lv_iload_n hx hb d_Mo_hasRoom_25 rfl (lv_at hl 0 rfl) ?_
    obtain ⟨rfl, rfl⟩ := Prod.mk.inj hR
    exact rz (b := false) hC hB rfl d_Mo_hasRoom_26
  · rw [if_neg c_1] at hR hk
    refine lv_iconst (v := 1) hx hb d_Mo_hasRoom_14 (by decide) ?_
    refine lv_goto (tgt := 19) hx hb d_Mo_hasRoom_15 (by decide) ?_
    refine lv_istore_n (lv' := [(1, .int 1), (0, .ref (G 4 0))]) hx hb d_Mo_hasRoom_19 rfl hl (by decide) rfl (fun ls hl => ?_)
    refine lv_aload_n hx hb d_Mo_hasRoom_20 rfl (lv_at hl 1 rfl) ?_
    refine lv_iload_n hx hb d_Mo_hasRoom_21 rfl (lv_at hl 0 rfl) ?_
    refine pt (ty := .boolean) rfl hC hB _ lkM_o rfl i_Mo t_Mo t_Mo_ok n_Mo 7 (by decide) rfl rfl kw_898 (by decide +kernel) rfl rfl (Nat.le_of_ble_eq_true rfl) d_Mo_hasRoom_22 (ws' := wsM G cI cL (wf (m_Mo_turn τ) true) rest) (setM_f (b := true)) (fun H locs hB => ?_)
    refine lv_iload_n hx hb d_Mo_hasRoom_25 rfl (lv_at hl 0 rfl) ?_
    obtain ⟨rfl, rfl⟩ := Prod.mk.inj hR
    exact rz (b := true) hC hB rfl d_Mo_hasRoom_26

set_option maxHeartbeats 400000 in
set_option maxRecDepth 100000 in
theorem w_Mo_liesIn_19 {p : Program} {e : Env} {s : State} {m : MethodId} {args : Array Value} {below : List Frame} {meth : Method} {c : Code} {RES : Bool} (K : SM → Int32 → Int32 → Int32 → Int32 → Bool) (KP : SM → Int32 → Int32 → Int32 → Int32 → Prop)  (τ : SM)  (hC : cx D classes (tyL cI cL cQ) NWL ALLW N1 p s m args meth c b_Mo_liesIn 6 (some .boolean) R_Mo) (hK : ∀ (v1 : Int32) (v2 : Int32) (v3 : Int32) (v4 : Int32), True → K τ  v1 v2 v3 v4 = RES → (KP τ  v1 v2 v3 v4) = True → ∀ (H : Heap) (locs : List Loc), bd D classes N0 N1 (wsM G cI cL τ rest) s H locs → ∀ (ls : Array Slot), lv_has ls 6 [(0, .ref (G 4 0)), (1, .int v1), (2, .int v2), (3, .int v3), (4, .int v4)] → W p l e { frames := 1, cells := 0, slots := 0, locals := 21 } s m args below meth c H locs 0 0 (MQ below (qx D classes N0 N1 (some (.int (bi RES))) (fun w => w = wsM G cI cL τ rest)) args s 0 0 (ga N1)) (F0 m 7 ls [])) :
    ∀ (n : Nat) (v1 : Int32) (v2 : Int32) (v3 : Int32) (v4 : Int32) (v5 : Int32), upI n (m_Mo_count τ 1) v5 → lp_Mo_liesIn_19 K n τ  v1 v2 v3 v4 v5 = RES → (kl_Mo_liesIn_19 KP n τ  v1 v2 v3 v4 v5) = True → ∀ (H : Heap) (locs : List Loc), bd D classes N0 N1 (wsM G cI cL τ rest) s H locs → ∀ (ls : Array Slot), lv_has ls 6 [(0, .ref (G 4 0)), (1, .int v1), (2, .int v2), (3, .int v3), (4, .int v4), (5, .int v5)] → W p l e { frames := 1, cells := 0, slots := 0, locals := 21 } s m args below meth c H locs 0 0 (MQ below (qx D classes N0 N1 (some (.int (bi RES))) (fun w => w = wsM G cI cL τ rest)) args s 0 0 (ga N1)) (F0 m 19 ls []) := by
  have hx := hC.1
  have hb := hC.2.1
  intro n
  induction n with
  | zero =>
    intro v1 v2 v3 v4 v5 hI
    exact absurd hI up_zero
  | succ n ih =>
    intro v1 v2 v3 v4 v5 hI hR hk H locs hB ls hl
    rw [lp_Mo_liesIn_19] at hR
    rw [kl_Mo_liesIn_19] at hk
    refine lv_iload hx hb d_Mo_liesIn_19 (lv_at hl 5 rfl) ?_
    refine lv_aload_n hx hb d_Mo_liesIn_21 rfl (lv_at hl 0 rfl) ?_
    refine lv_iconst (v := 1) hx hb d_Mo_liesIn_22 (by decide) ?_
    refine kV hC hB _ lkM_o rfl (c_Mo_count τ  1 (andL hk)) allw_ok mf_Mo_count kw_963 ks_29 kw_961 ⟨rfl, rfl, Nat.le_of_ble_eq_true rfl, Nat.le_of_ble_eq_true rfl⟩ rfl rfl hl.1 (Nat.le_of_ble_eq_true rfl) d_Mo_liesIn_23 ⟨Nat.le_of_ble_eq_true rfl, Nat.le_of_ble_eq_true rfl⟩ (roK fun H locs hB => ?_)
    replace hk := andR hk
    refine lv_icmp_ge (tgt := 86) hx hb d_Mo_liesIn_26 (by decide) (fun c_1 => ?_) (fun c_1 => ?_)
    · rw [if_pos c_1] at hR hk
      refine lv_goto (tgt := 7) hx hb d_Mo_liesIn_86 (by decide) ?_
      exact hK v1 v2 v3 v4 (trivial) hR hk _ _ hB ls (lv_sub hl [0, 1, 2, 3, 4] rfl)
    · rw [if_neg c_1] at hR hk
      refine lv_aload_n hx hb d_Mo_liesIn_29 rfl (lv_at hl 0 rfl) ?_
      refine gt hC hB _ lkM_o rfl i_Mo 1 (by decide) rfl kw_892 rfl d_Mo_liesIn_30 ?_
      refine lv_sipush (v := 152) hx hb d_Mo_liesIn_33 (by decide) ?_
      refine lv_iload hx hb d_Mo_liesIn_36 (lv_at hl 5 rfl) ?_
      refine lv_iadd hx hb d_Mo_liesIn_38 ?_
      refine va_lald hx hb hC.2.2.2.2.2.2.2.1.1 hB.1 _ 1 (lkM_l (by decide : 0 < 4)) rfl (of_eq_true (andL hk)) d_Mo_liesIn_39 ?_
      replace hk := andR hk
      refine lv_lconst (v := 0) hx hb d_Mo_liesIn_40 (by decide) ?_
      refine W.lcmp hx hb d_Mo_liesIn_41 ?_
      refine lv_if_lt (tgt := 80) hx hb d_Mo_liesIn_42 (by decide) (fun c_2 => ?_) (fun c_2 => ?_)
      · rw [if_pos c_2] at hR hk
        refine lv_iinc (v := (v5 + 1)) (lv' := [(5, .int (v5 + 1)), (0, .ref (G 4 0)), (1, .int v1), (2, .int v2), (3, .int v3), (4, .int v4)]) hx hb d_Mo_liesIn_80 hl (k := 5) rfl rfl (by decide) rfl (fun ls hl => ?_)
        refine lv_goto (tgt := 19) hx hb d_Mo_liesIn_83 (by decide) ?_
        exact ih v1 v2 v3 v4 (v5 + 1) (up_step hI (by assumption)) hR hk _ _ hB ls (lv_sub hl [1, 2, 3, 4, 5, 0] rfl)
      · rw [if_neg c_2] at hR hk
        refine lv_iload_n hx hb d_Mo_liesIn_45 rfl (lv_at hl 3 rfl) ?_
        refine lv_aload_n hx hb d_Mo_liesIn_46 rfl (lv_at hl 0 rfl) ?_
        refine gt hC hB _ lkM_o rfl i_Mo 1 (by decide) rfl kw_892 rfl d_Mo_liesIn_47 ?_
        refine lv_bipush (v := 32) hx hb d_Mo_liesIn_50 (by decide) ?_
        refine lv_iload hx hb d_Mo_liesIn_52 (lv_at hl 5 rfl) ?_
        refine lv_iadd hx hb d_Mo_liesIn_54 ?_
        refine va_lald hx hb hC.2.2.2.2.2.2.2.1.1 hB.1 _ 1 (lkM_l (by decide : 0 < 4)) rfl (of_eq_true (andL hk)) d_Mo_liesIn_55 ?_
        replace hk := andR hk
        refine lv_l2i hx hb d_Mo_liesIn_56 rfl ?_
        refine lv_ishr hx hb d_Mo_liesIn_57 ?_
        refine lv_iconst (v := 1) hx hb d_Mo_liesIn_58 (by decide) ?_
        refine lv_iand hx hb d_Mo_liesIn_59 ?_
        refine lv_iconst (v := 1) hx hb d_Mo_liesIn_60 (by decide) ?_
        refine lv_icmp_ne (tgt := 80) hx hb d_Mo_liesIn_61 (by decide) (fun c_3 => ?_) (fun c_3 => ?_)
        · rw [if_neg c_3] at hR hk
          refine lv_iinc (v := (v5 + 1)) (lv' := [(5, .int (v5 + 1)), (0, .ref (G 4 0)), (1, .int v1), (2, .int v2), (3, .int v3), (4, .int v4)]) hx hb d_Mo_liesIn_80 hl (k := 5) rfl rfl (by decide) rfl (fun ls hl => ?_)
          refine lv_goto (tgt := 19) hx hb d_Mo_liesIn_83 (by decide) ?_
          exact ih v1 v2 v3 v4 (v5 + 1) (up_step hI (by assumption)) hR hk _ _ hB ls (lv_sub hl [1, 2, 3, 4, 5, 0] rfl)
        · rw [if_pos c_3] at hR hk
          refine lv_iload_n hx hb d_Mo_liesIn_64 rfl (lv_at hl 3 rfl) ?_
          refine lv_iconst (v := 1) hx hb d_Mo_liesIn_65 (by decide) ?_
          refine lv_aload_n hx hb d_Mo_liesIn_66 rfl (lv_at hl 0 rfl) ?_
          refine gt hC hB _ lkM_o rfl i_Mo 1 (by decide) rfl kw_892 rfl d_Mo_liesIn_67 ?_
          refine lv_bipush (v := 92) hx hb d_Mo_liesIn_70 (by decide) ?_
          refine lv_iload hx hb d_Mo_liesIn_72 (lv_at hl 5 rfl) ?_
          refine lv_iadd hx hb d_Mo_liesIn_74 ?_
          refine va_lald hx hb hC.2.2.2.2.2.2.2.1.1 hB.1 _ 1 (lkM_l (by decide : 0 < 4)) rfl (of_eq_true (andL hk)) d_Mo_liesIn_75 ?_
          replace hk := andR hk
          refine lv_l2i hx hb d_Mo_liesIn_76 rfl ?_
          refine lv_ishl hx hb d_Mo_liesIn_77 ?_
          refine lv_ior hx hb d_Mo_liesIn_78 ?_
          refine lv_istore_n (lv' := [(3, .int (v3 ||| (1 <<< ((yL τ 0 (92 + v5).toNatClampNeg).toInt32 &&& 31)))), (0, .ref (G 4 0)), (1, .int v1), (2, .int v2), (4, .int v4), (5, .int v5)]) hx hb d_Mo_liesIn_79 rfl hl (by decide) rfl (fun ls hl => ?_)
          refine lv_iinc (v := (v5 + 1)) (lv' := [(5, .int (v5 + 1)), (3, .int (v3 ||| (1 <<< ((yL τ 0 (92 + v5).toNatClampNeg).toInt32 &&& 31)))), (0, .ref (G 4 0)), (1, .int v1), (2, .int v2), (4, .int v4)]) hx hb d_Mo_liesIn_80 hl (k := 5) rfl rfl (by decide) rfl (fun ls hl => ?_)
          refine lv_goto (tgt := 19) hx hb d_Mo_liesIn_83 (by decide) ?_
          exact ih v1 v2 (v3 ||| (1 <<< ((yL τ 0 (92 + v5).toNatClampNeg).toInt32 &&& 31))) v4 (v5 + 1) (up_step hI (by assumption)) hR hk _ _ hB ls (lv_sub hl [2, 3, 4, 1, 5, 0] rfl)

set_option maxHeartbeats 400000 in
set_option maxRecDepth 100000 in
theorem w_Mo_liesIn_7 {p : Program} {e : Env} {s : State} {m : MethodId} {args : Array Value} {below : List Frame} {meth : Method} {c : Code} {RES : Bool}  (τ : SM)  (hC : cx D classes (tyL cI cL cQ) NWL ALLW N1 p s m args meth c b_Mo_liesIn 6 (some .boolean) R_Mo) :
    ∀ (n : Nat) (v1 : Int32) (v2 : Int32) (v3 : Int32) (v4 : Int32), True → lp_Mo_liesIn_7 n τ  v1 v2 v3 v4 = RES → (kl_Mo_liesIn_7 n τ  v1 v2 v3 v4) = True → ∀ (H : Heap) (locs : List Loc), bd D classes N0 N1 (wsM G cI cL τ rest) s H locs → ∀ (ls : Array Slot), lv_has ls 6 [(0, .ref (G 4 0)), (1, .int v1), (2, .int v2), (3, .int v3), (4, .int v4)] → W p l e { frames := 1, cells := 0, slots := 0, locals := 21 } s m args below meth c H locs 0 0 (MQ below (qx D classes N0 N1 (some (.int (bi RES))) (fun w => w = wsM G cI cL τ rest)) args s 0 0 (ga N1)) (F0 m 7 ls []) := by
  have hx := hC.1
  have hb := hC.2.1
  intro n
  induction n with
  | zero =>
    intro v1 v2 v3 v4 hI hR hk
    exact False.elim (of_eq_true hk)
  | succ n ih =>
    intro v1 v2 v3 v4 hI hR hk H locs hB ls hl
    rw [lp_Mo_liesIn_7] at hR
    rw [kl_Mo_liesIn_7] at hk
    refine lv_iload hx hb d_Mo_liesIn_7 (lv_at hl 4 rfl) ?_
    refine lv_iload_n hx hb d_Mo_liesIn_9 rfl (lv_at hl 3 rfl) ?_
    refine lv_icmp_eq (tgt := 89) hx hb d_Mo_liesIn_10 (by decide) (fun c_1 => ?_) (fun c_1 => ?_)
    · rw [if_pos c_1] at hR hk
      refine lv_iload_n hx hb d_Mo_liesIn_89 rfl (lv_at hl 3 rfl) ?_
      refine lv_iload_n hx hb d_Mo_liesIn_90 rfl (lv_at hl 1 rfl) ?_
      refine lv_ishr hx hb d_Mo_liesIn_91 ?_
      refine lv_iconst (v := 1) hx hb d_Mo_liesIn_92 (by decide) ?_
      refine lv_iand hx hb d_Mo_liesIn_93 ?_
      refine lv_iconst (v := 1) hx hb d_Mo_liesIn_94 (by decide) ?_
      refine lv_icmp_ne (tgt := 102) hx hb d_Mo_liesIn_95 (by decide) (fun c_2 => ?_) (fun c_2 => ?_)
      · rw [if_neg c_2] at hR hk
        refine lv_iconst (v := 0) hx hb d_Mo_liesIn_102 (by decide) ?_
        subst hR
        exact rz (b := false) hC hB rfl d_Mo_liesIn_103
      · rw [if_pos c_2] at hR hk
        refine lv_iconst (v := 1) hx hb d_Mo_liesIn_98 (by decide) ?_
        refine lv_goto (tgt := 103) hx hb d_Mo_liesIn_99 (by decide) ?_
        subst hR
        exact rz (b := true) hC hB rfl d_Mo_liesIn_103
    · rw [if_neg c_1] at hR hk
      refine lv_iload_n hx hb d_Mo_liesIn_13 rfl (lv_at hl 3 rfl) ?_
      refine lv_istore (lv' := [(4, .int v3), (0, .ref (G 4 0)), (1, .int v1), (2, .int v2), (3, .int v3)]) hx hb d_Mo_liesIn_14 hl (by decide) rfl (fun ls hl => ?_)
      refine lv_iconst (v := 0) hx hb d_Mo_liesIn_16 (by decide) ?_
      refine lv_istore (lv' := [(5, .int 0), (4, .int v3), (0, .ref (G 4 0)), (1, .int v1), (2, .int v2), (3, .int v3)]) hx hb d_Mo_liesIn_17 hl (by decide) rfl (fun ls hl => ?_)
      exact w_Mo_liesIn_19 (lp_Mo_liesIn_7 n) (kl_Mo_liesIn_7 n)  τ  hC ih ((m_Mo_count τ 1).toNatClampNeg + 1) v1 v2 v3 v3 0 (up_init _) hR hk _ _ hB ls (lv_sub hl [2, 3, 4, 5, 1, 0] rfl)

set_option maxHeartbeats 400000 in
set_option maxRecDepth 100000 in
theorem c_Mo_liesIn  (τ : SM)  (x0 : Int32) (x1 : Int32) (hk : (k_Mo_liesIn τ x0 x1) = True) : CM l y_Mo_liesIn b_Mo_liesIn 6 (some .boolean) { frames := 1, cells := 0, slots := 0, locals := 21 } D (tyL cI cL cQ) N0 N1 [.ref (G 4 0), .int x0, .int x1] (wsM G cI cL τ rest) (some (.int (bi (m_Mo_liesIn τ x0 x1)))) (fun w => w = wsM G cI cL τ rest) 0 0 := by
  generalize hR : m_Mo_liesIn τ x0 x1 = RES
  refine met_of (own := R_Mo) (by decide) rfl nwl_ok ?_
  intro p e s m below meth c hC hin hB
  have hx := hC.1
  have hb := hC.2.1
  have hl := lv_entry ([.ref (G 4 0), .int x0, .int x1]) (n := 6) (Nat.le_of_ble_eq_true rfl)
  rw [lg_entry_eq]
  generalize (lg_sl ([.ref (G 4 0), .int x0, .int x1]) ++ List.replicate (6 - (lg_sl ([.ref (G 4 0), .int x0, .int x1])).length) Slot.unset).toArray = ls at hl ⊢
  have hl : lv_has ls 6 [(0, .ref (G 4 0)), (1, .int x0), (2, .int x1)] := hl
  rw [m_Mo_liesIn] at hR
  rw [k_Mo_liesIn] at hk
  refine lv_iconst (v := 1) hx hb d_Mo_liesIn_0 (by decide) ?_
  refine lv_iload_n hx hb d_Mo_liesIn_1 rfl (lv_at hl 2 rfl) ?_
  refine lv_ishl hx hb d_Mo_liesIn_2 ?_
  refine lv_istore_n (lv' := [(3, .int (1 <<< (x1 &&& 31))), (0, .ref (G 4 0)), (1, .int x0), (2, .int x1)]) hx hb d_Mo_liesIn_3 rfl hl (by decide) rfl (fun ls hl => ?_)
  refine lv_iconst (v := 0) hx hb d_Mo_liesIn_4 (by decide) ?_
  refine lv_istore (lv' := [(4, .int 0), (3, .int (1 <<< (x1 &&& 31))), (0, .ref (G 4 0)), (1, .int x0), (2, .int x1)]) hx hb d_Mo_liesIn_5 hl (by decide) rfl (fun ls hl => ?_)
  exact w_Mo_liesIn_7  τ  hC 40 x0 x1 (1 <<< (x1 &&& 31)) 0 (trivial) hR hk _ _ hB ls (lv_sub hl [2, 3, 4, 1, 0] rfl)

set_option maxHeartbeats 400000 in
set_option maxRecDepth 100000 in
theorem c_Mo_sheet  (τ : SM)   (hk : (k_Mo_sheet τ) = True) : CM l y_Mo_sheet b_Mo_sheet 2 (some .int) { frames := 1, cells := 0, slots := 0, locals := 22 } D (tyL cI cL cQ) N0 N0 [.ref (G 4 0)] (wsM G cI cL τ rest) (some (.int ((m_Mo_sheet τ).1))) (fun w => w = wsM G cI cL ((m_Mo_sheet τ).2) rest) 0 0 := by
  generalize hR : m_Mo_sheet τ = RES
  obtain ⟨RV, RS⟩ := RES
  dsimp only
  refine met_of (own := R_Mo) (by decide) rfl nwl_ok ?_
  intro p e s m below meth c hC hin hB
  have hx := hC.1
  have hb := hC.2.1
  have hl := lv_entry ([.ref (G 4 0)]) (n := 2) (Nat.le_of_ble_eq_true rfl)
  rw [lg_entry_eq]
  generalize (lg_sl ([.ref (G 4 0)]) ++ List.replicate (2 - (lg_sl ([.ref (G 4 0)])).length) Slot.unset).toArray = ls at hl ⊢
  have hl : lv_has ls 2 [(0, .ref (G 4 0))] := hl
  rw [m_Mo_sheet] at hR
  rw [k_Mo_sheet] at hk
  refine lv_aload_n hx hb d_Mo_sheet_0 rfl (lv_at hl 0 rfl) ?_
  refine lv_iconst (v := 0) hx hb d_Mo_sheet_1 (by decide) ?_
  refine pt (ty := .int) rfl hC hB _ lkM_o rfl i_Mo t_Mo t_Mo_ok n_Mo 0 (by decide) rfl rfl kw_891 (by decide +kernel) rfl rfl (Nat.le_of_ble_eq_true rfl) d_Mo_sheet_2 (ws' := wsM G cI cL (wn τ 0 0) rest) setM_n0 (fun H locs hB => ?_)
  refine lv_aload_n hx hb d_Mo_sheet_5 rfl (lv_at hl 0 rfl) ?_
  refine lv_iconst (v := 0) hx hb d_Mo_sheet_6 (by decide) ?_
  refine kV hC hB _ lkM_o rfl (c_Mo_count (wn τ 0 0)  0 (andL hk)) allw_ok mf_Mo_count kw_963 ks_29 kw_961 ⟨rfl, rfl, Nat.le_of_ble_eq_true rfl, Nat.le_of_ble_eq_true rfl⟩ rfl rfl hl.1 (Nat.le_of_ble_eq_true rfl) d_Mo_sheet_7 ⟨Nat.le_of_ble_eq_true rfl, Nat.le_of_ble_eq_true rfl⟩ (roK fun H locs hB => ?_)
  replace hk := andR hk
  refine lv_bipush (v := 24) hx hb d_Mo_sheet_10 (by decide) ?_
  refine lv_icmp_ne (tgt := 17) hx hb d_Mo_sheet_12 (by decide) (fun c_1 => ?_) (fun c_1 => ?_)
  · rw [if_neg c_1] at hR hk
    refine lv_aload_n hx hb d_Mo_sheet_17 rfl (lv_at hl 0 rfl) ?_
    refine kV hC hB _ lkM_o rfl (c_Mo_begin (wn τ 0 0)  (andL hk)) allw_ok mf_Mo_begin kw_967 ks_30 kw_965 ⟨rfl, rfl, Nat.le_of_ble_eq_true rfl, Nat.le_of_ble_eq_true rfl⟩ rfl rfl hl.1 (Nat.le_of_ble_eq_true rfl) d_Mo_sheet_18 ⟨Nat.le_of_ble_eq_true rfl, Nat.le_of_ble_eq_true rfl⟩ (roK fun H locs hB => ?_)
    replace hk := andR hk
    refine lv_aload_n hx hb d_Mo_sheet_21 rfl (lv_at hl 0 rfl) ?_
    refine lv_iconst (v := 0) hx hb d_Mo_sheet_22 (by decide) ?_
    refine kV hC hB _ lkM_o rfl (c_Mo_count (m_Mo_begin (wn τ 0 0))  0 (andL hk)) allw_ok mf_Mo_count kw_963 ks_29 kw_961 ⟨rfl, rfl, Nat.le_of_ble_eq_true rfl, Nat.le_of_ble_eq_true rfl⟩ rfl rfl hl.1 (Nat.le_of_ble_eq_true rfl) d_Mo_sheet_23 ⟨Nat.le_of_ble_eq_true rfl, Nat.le_of_ble_eq_true rfl⟩ (roK fun H locs hB => ?_)
    replace hk := andR hk
    refine lv_istore_n (lv' := [(1, .int (m_Mo_count (m_Mo_begin (wn τ 0 0)) 0)), (0, .ref (G 4 0))]) hx hb d_Mo_sheet_26 rfl hl (by decide) rfl (fun ls hl => ?_)
    refine lv_aload_n hx hb d_Mo_sheet_27 rfl (lv_at hl 1 rfl) ?_
    refine gt hC hB _ lkM_o rfl i_Mo 1 (by decide) rfl kw_892 rfl d_Mo_sheet_28 ?_
    refine lv_bipush (v := 8) hx hb d_Mo_sheet_31 (by decide) ?_
    refine lv_iload_n hx hb d_Mo_sheet_33 rfl (lv_at hl 0 rfl) ?_
    refine lv_iadd hx hb d_Mo_sheet_34 ?_
    refine lv_lconst (v := 0) hx hb d_Mo_sheet_35 (by decide) ?_
    refine as_l rfl hC hB _ 1 (lkM_l (by decide : 0 < 4)) rfl (of_eq_true (andL hk)) d_Mo_sheet_36 (ws' := wsM G cI cL (wL (m_Mo_begin (wn τ 0 0)) 0 ((8 + (m_Mo_count (m_Mo_begin (wn τ 0 0)) 0)).toNatClampNeg) 0) rest) (setM_l (by decide : 0 < 4) _ _) (fun H locs hB => ?_)
    replace hk := andR hk
    refine lv_aload_n hx hb d_Mo_sheet_37 rfl (lv_at hl 1 rfl) ?_
    refine gt hC hB _ lkM_o rfl i_Mo 1 (by decide) rfl kw_892 rfl d_Mo_sheet_38 ?_
    refine lv_iconst (v := 0) hx hb d_Mo_sheet_41 (by decide) ?_
    refine lv_dup2_11 hx hb d_Mo_sheet_42 rfl rfl ?_
    refine va_lald hx hb hC.2.2.2.2.2.2.2.1.1 hB.1 _ 1 (lkM_l (by decide : 0 < 4)) rfl (of_eq_true (andL hk)) d_Mo_sheet_43 ?_
    replace hk := andR hk
    refine lv_lconst (v := 1) hx hb d_Mo_sheet_44 (by decide) ?_
    refine lv_ladd hx hb d_Mo_sheet_45 ?_
    refine as_l rfl hC hB _ 1 (lkM_l (by decide : 0 < 4)) rfl (of_eq_true (andL hk)) d_Mo_sheet_46 (ws' := wsM G cI cL (wL (wL (m_Mo_begin (wn τ 0 0)) 0 ((8 + (m_Mo_count (m_Mo_begin (wn τ 0 0)) 0)).toNatClampNeg) 0) 0 ((0 : Int32).toNatClampNeg) ((yL (wL (m_Mo_begin (wn τ 0 0)) 0 ((8 + (m_Mo_count (m_Mo_begin (wn τ 0 0)) 0)).toNatClampNeg) 0) 0 (0 : Int32).toNatClampNeg) + 1)) rest) (setM_l (by decide : 0 < 4) _ _) (fun H locs hB => ?_)
    replace hk := andR hk
    refine lv_aload_n hx hb d_Mo_sheet_47 rfl (lv_at hl 1 rfl) ?_
    refine kV hC hB _ lkM_o rfl (c_Mo_done (wL (wL (m_Mo_begin (wn τ 0 0)) 0 ((8 + (m_Mo_count (m_Mo_begin (wn τ 0 0)) 0)).toNatClampNeg) 0) 0 ((0 : Int32).toNatClampNeg) ((yL (wL (m_Mo_begin (wn τ 0 0)) 0 ((8 + (m_Mo_count (m_Mo_begin (wn τ 0 0)) 0)).toNatClampNeg) 0) 0 (0 : Int32).toNatClampNeg) + 1))  (andL hk)) allw_ok mf_Mo_done kw_971 ks_31 kw_969 ⟨rfl, rfl, Nat.le_of_ble_eq_true rfl, Nat.le_of_ble_eq_true rfl⟩ rfl rfl hl.1 (Nat.le_of_ble_eq_true rfl) d_Mo_sheet_48 ⟨Nat.le_of_ble_eq_true rfl, Nat.le_of_ble_eq_true rfl⟩ (roK fun H locs hB => ?_)
    replace hk := andR hk
    refine lv_iload_n hx hb d_Mo_sheet_51 rfl (lv_at hl 0 rfl) ?_
    obtain ⟨rfl, rfl⟩ := Prod.mk.inj hR
    exact ri hC hB rfl d_Mo_sheet_52
  · rw [if_pos c_1] at hR hk
    refine lv_iconst (v := (-1)) hx hb d_Mo_sheet_15 (by decide) ?_
    obtain ⟨rfl, rfl⟩ := Prod.mk.inj hR
    exact ri hC hB rfl d_Mo_sheet_16

set_option maxHeartbeats 400000 in
set_option maxRecDepth 100000 in
theorem w_Mo_addPlacement_48 {p : Program} {e : Env} {s : State} {m : MethodId} {args : Array Value} {below : List Frame} {meth : Method} {c : Code} {RES : Int32 × SM}   (hC : cx D classes (tyL cI cL cQ) NWL ALLW N0 p s m args meth c b_Mo_addPlacement 5 (some .int) R_Mo) :
    ∀ (n : Nat) (τ : SM) (v1 : Int32) (v2 : Int32) (v3 : Int32) (v4 : Int32), upI n (32 : Int32) v4 → lp_Mo_addPlacement_48 n τ  v1 v2 v3 v4 = RES → (kl_Mo_addPlacement_48 n τ  v1 v2 v3 v4) = True → ∀ (H : Heap) (locs : List Loc), bd D classes N0 N0 (wsM G cI cL τ rest) s H locs → ∀ (ls : Array Slot), lv_has ls 5 [(0, .ref (G 4 0)), (1, .int v1), (2, .int v2), (3, .int v3), (4, .int v4)] → W p l e { frames := 1, cells := 0, slots := 0, locals := 21 } s m args below meth c H locs 0 0 (MQ below (qx D classes N0 N0 (some (.int RES.1)) (fun w => w = wsM G cI cL RES.2 rest)) args s 0 0 (ga N0)) (F0 m 48 ls []) := by
  obtain ⟨RV, RS⟩ := RES
  dsimp only
  have hx := hC.1
  have hb := hC.2.1
  intro n
  induction n with
  | zero =>
    intro τ v1 v2 v3 v4 hI
    exact absurd hI up_zero
  | succ n ih =>
    intro τ v1 v2 v3 v4 hI hR hk H locs hB ls hl
    rw [lp_Mo_addPlacement_48] at hR
    rw [kl_Mo_addPlacement_48] at hk
    refine lv_iload hx hb d_Mo_addPlacement_48 (lv_at hl 4 rfl) ?_
    refine lv_bipush (v := 32) hx hb d_Mo_addPlacement_50 (by decide) ?_
    refine lv_icmp_ge (tgt := 78) hx hb d_Mo_addPlacement_52 (by decide) (fun c_1 => ?_) (fun c_1 => ?_)
    · rw [if_pos c_1] at hR hk
      refine lv_aload_n hx hb d_Mo_addPlacement_78 rfl (lv_at hl 0 rfl) ?_
      refine gt hC hB _ lkM_o rfl i_Mo 1 (by decide) rfl kw_892 rfl d_Mo_addPlacement_79 ?_
      refine lv_bipush (v := 6) hx hb d_Mo_addPlacement_82 (by decide) ?_
      refine lv_dup2_11 hx hb d_Mo_addPlacement_84 rfl rfl ?_
      refine va_lald hx hb hC.2.2.2.2.2.2.2.1.1 hB.1 _ 1 (lkM_l (by decide : 0 < 4)) rfl (of_eq_true (andL hk)) d_Mo_addPlacement_85 ?_
      replace hk := andR hk
      refine lv_lconst (v := 1) hx hb d_Mo_addPlacement_86 (by decide) ?_
      refine lv_ladd hx hb d_Mo_addPlacement_87 ?_
      refine as_l rfl hC hB _ 1 (lkM_l (by decide : 0 < 4)) rfl (of_eq_true (andL hk)) d_Mo_addPlacement_88 (ws' := wsM G cI cL (wL τ 0 ((6 : Int32).toNatClampNeg) ((yL τ 0 (6 : Int32).toNatClampNeg) + 1)) rest) (setM_l (by decide : 0 < 4) _ _) (fun H locs hB => ?_)
      replace hk := andR hk
      refine lv_aload_n hx hb d_Mo_addPlacement_89 rfl (lv_at hl 0 rfl) ?_
      refine gt hC hB _ lkM_o rfl i_Mo 1 (by decide) rfl kw_892 rfl d_Mo_addPlacement_90 ?_
      refine lv_iconst (v := 1) hx hb d_Mo_addPlacement_93 (by decide) ?_
      refine lv_dup2_11 hx hb d_Mo_addPlacement_94 rfl rfl ?_
      refine va_lald hx hb hC.2.2.2.2.2.2.2.1.1 hB.1 _ 1 (lkM_l (by decide : 0 < 4)) rfl (of_eq_true (andL hk)) d_Mo_addPlacement_95 ?_
      replace hk := andR hk
      refine lv_lconst (v := 1) hx hb d_Mo_addPlacement_96 (by decide) ?_
      refine lv_ladd hx hb d_Mo_addPlacement_97 ?_
      refine as_l rfl hC hB _ 1 (lkM_l (by decide : 0 < 4)) rfl (of_eq_true (andL hk)) d_Mo_addPlacement_98 (ws' := wsM G cI cL (wL (wL τ 0 ((6 : Int32).toNatClampNeg) ((yL τ 0 (6 : Int32).toNatClampNeg) + 1)) 0 ((1 : Int32).toNatClampNeg) ((yL (wL τ 0 ((6 : Int32).toNatClampNeg) ((yL τ 0 (6 : Int32).toNatClampNeg) + 1)) 0 (1 : Int32).toNatClampNeg) + 1)) rest) (setM_l (by decide : 0 < 4) _ _) (fun H locs hB => ?_)
      replace hk := andR hk
      refine lv_iload_n hx hb d_Mo_addPlacement_99 rfl (lv_at hl 3 rfl) ?_
      obtain ⟨rfl, rfl⟩ := Prod.mk.inj hR
      exact ri hC hB rfl d_Mo_addPlacement_100
    · rw [if_neg c_1] at hR hk
      refine lv_aload_n hx hb d_Mo_addPlacement_55 rfl (lv_at hl 0 rfl) ?_
      refine gt hC hB _ lkM_o rfl i_Mo 1 (by decide) rfl kw_892 rfl d_Mo_addPlacement_56 ?_
      refine lv_sipush (v := 212) hx hb d_Mo_addPlacement_59 (by decide) ?_
      refine lv_bipush (v := 32) hx hb d_Mo_addPlacement_62 (by decide) ?_
      refine lv_iload_n hx hb d_Mo_addPlacement_64 rfl (lv_at hl 3 rfl) ?_
      refine lv_imul hx hb d_Mo_addPlacement_65 ?_
      refine lv_iadd hx hb d_Mo_addPlacement_66 ?_
      refine lv_iload hx hb d_Mo_addPlacement_67 (lv_at hl 4 rfl) ?_
      refine lv_iadd hx hb d_Mo_addPlacement_69 ?_
      refine lv_lconst (v := 0) hx hb d_Mo_addPlacement_70 (by decide) ?_
      refine as_l rfl hC hB _ 1 (lkM_l (by decide : 0 < 4)) rfl (of_eq_true (andL hk)) d_Mo_addPlacement_71 (ws' := wsM G cI cL (wL τ 0 (((212 + (32 * v3)) + v4).toNatClampNeg) 0) rest) (setM_l (by decide : 0 < 4) _ _) (fun H locs hB => ?_)
      replace hk := andR hk
      refine lv_iinc (v := (v4 + 1)) (lv' := [(4, .int (v4 + 1)), (0, .ref (G 4 0)), (1, .int v1), (2, .int v2), (3, .int v3)]) hx hb d_Mo_addPlacement_72 hl (k := 4) rfl rfl (by decide) rfl (fun ls hl => ?_)
      refine lv_goto (tgt := 48) hx hb d_Mo_addPlacement_75 (by decide) ?_
      exact ih (wL τ 0 (((212 + (32 * v3)) + v4).toNatClampNeg) 0) v1 v2 v3 (v4 + 1) (up_step hI (by assumption)) hR hk _ _ hB ls (lv_sub hl [1, 2, 3, 4, 0] rfl)

set_option maxHeartbeats 400000 in
set_option maxRecDepth 100000 in
theorem c_Mo_addPlacement  (τ : SM)  (x0 : Int32) (x1 : Int32) (hk : (k_Mo_addPlacement τ x0 x1) = True) : CM l y_Mo_addPlacement b_Mo_addPlacement 5 (some .int) { frames := 1, cells := 0, slots := 0, locals := 21 } D (tyL cI cL cQ) N0 N0 [.ref (G 4 0), .int x0, .int x1] (wsM G cI cL τ rest) (some (.int ((m_Mo_addPlacement τ x0 x1).1))) (fun w => w = wsM G cI cL ((m_Mo_addPlacement τ x0 x1).2) rest) 0 0 := by
  generalize hR : m_Mo_addPlacement τ x0 x1 = RES
  obtain ⟨RV, RS⟩ := RES
  dsimp only
  refine met_of (own := R_Mo) (by decide) rfl nwl_ok ?_
  intro p e s m below meth c hC hin hB
  have hx := hC.1
  have hb := hC.2.1
  have hl := lv_entry ([.ref (G 4 0), .int x0, .int x1]) (n := 5) (Nat.le_of_ble_eq_true rfl)
  rw [lg_entry_eq]
  generalize (lg_sl ([.ref (G 4 0), .int x0, .int x1]) ++ List.replicate (5 - (lg_sl ([.ref (G 4 0), .int x0, .int x1])).length) Slot.unset).toArray = ls at hl ⊢
  have hl : lv_has ls 5 [(0, .ref (G 4 0)), (1, .int x0), (2, .int x1)] := hl
  rw [m_Mo_addPlacement] at hR
  rw [k_Mo_addPlacement] at hk
  refine lv_aload_n hx hb d_Mo_addPlacement_0 rfl (lv_at hl 0 rfl) ?_
  refine lv_iconst (v := 1) hx hb d_Mo_addPlacement_1 (by decide) ?_
  refine kV hC hB _ lkM_o rfl (c_Mo_count τ  1 (andL hk)) allw_ok mf_Mo_count kw_963 ks_29 kw_961 ⟨rfl, rfl, Nat.le_of_ble_eq_true rfl, Nat.le_of_ble_eq_true rfl⟩ rfl rfl hl.1 (Nat.le_of_ble_eq_true rfl) d_Mo_addPlacement_2 ⟨Nat.le_of_ble_eq_true rfl, Nat.le_of_ble_eq_true rfl⟩ (roK fun H locs hB => ?_)
  replace hk := andR hk
  refine lv_istore_n (lv' := [(3, .int (m_Mo_count τ 1)), (0, .ref (G 4 0)), (1, .int x0), (2, .int x1)]) hx hb d_Mo_addPlacement_5 rfl hl (by decide) rfl (fun ls hl => ?_)
  refine lv_aload_n hx hb d_Mo_addPlacement_6 rfl (lv_at hl 1 rfl) ?_
  refine gt hC hB _ lkM_o rfl i_Mo 1 (by decide) rfl kw_892 rfl d_Mo_addPlacement_7 ?_
  refine lv_bipush (v := 32) hx hb d_Mo_addPlacement_10 (by decide) ?_
  refine lv_iload_n hx hb d_Mo_addPlacement_12 rfl (lv_at hl 0 rfl) ?_
  refine lv_iadd hx hb d_Mo_addPlacement_13 ?_
  refine lv_iload_n hx hb d_Mo_addPlacement_14 rfl (lv_at hl 2 rfl) ?_
  refine lv_i2l hx hb d_Mo_addPlacement_15 rfl ?_
  refine as_l rfl hC hB _ 1 (lkM_l (by decide : 0 < 4)) rfl (of_eq_true (andL hk)) d_Mo_addPlacement_16 (ws' := wsM G cI cL (wL τ 0 ((32 + (m_Mo_count τ 1)).toNatClampNeg) x0.toInt64) rest) (setM_l (by decide : 0 < 4) _ _) (fun H locs hB => ?_)
  replace hk := andR hk
  refine lv_aload_n hx hb d_Mo_addPlacement_17 rfl (lv_at hl 1 rfl) ?_
  refine gt hC hB _ lkM_o rfl i_Mo 1 (by decide) rfl kw_892 rfl d_Mo_addPlacement_18 ?_
  refine lv_bipush (v := 92) hx hb d_Mo_addPlacement_21 (by decide) ?_
  refine lv_iload_n hx hb d_Mo_addPlacement_23 rfl (lv_at hl 0 rfl) ?_
  refine lv_iadd hx hb d_Mo_addPlacement_24 ?_
  refine lv_iload_n hx hb d_Mo_addPlacement_25 rfl (lv_at hl 3 rfl) ?_
  refine lv_i2l hx hb d_Mo_addPlacement_26 rfl ?_
  refine as_l rfl hC hB _ 1 (lkM_l (by decide : 0 < 4)) rfl (of_eq_true (andL hk)) d_Mo_addPlacement_27 (ws' := wsM G cI cL (wL (wL τ 0 ((32 + (m_Mo_count τ 1)).toNatClampNeg) x0.toInt64) 0 ((92 + (m_Mo_count τ 1)).toNatClampNeg) x1.toInt64) rest) (setM_l (by decide : 0 < 4) _ _) (fun H locs hB => ?_)
  replace hk := andR hk
  refine lv_aload_n hx hb d_Mo_addPlacement_28 rfl (lv_at hl 1 rfl) ?_
  refine gt hC hB _ lkM_o rfl i_Mo 1 (by decide) rfl kw_892 rfl d_Mo_addPlacement_29 ?_
  refine lv_sipush (v := 152) hx hb d_Mo_addPlacement_32 (by decide) ?_
  refine lv_iload_n hx hb d_Mo_addPlacement_35 rfl (lv_at hl 0 rfl) ?_
  refine lv_iadd hx hb d_Mo_addPlacement_36 ?_
  refine lv_aload_n hx hb d_Mo_addPlacement_37 rfl (lv_at hl 1 rfl) ?_
  refine gt hC hB _ lkM_o rfl i_Mo 1 (by decide) rfl kw_892 rfl d_Mo_addPlacement_38 ?_
  refine lv_bipush (v := 6) hx hb d_Mo_addPlacement_41 (by decide) ?_
  refine va_lald hx hb hC.2.2.2.2.2.2.2.1.1 hB.1 _ 1 (lkM_l (by decide : 0 < 4)) rfl (of_eq_true (andL hk)) d_Mo_addPlacement_43 ?_
  replace hk := andR hk
  refine as_l rfl hC hB _ 1 (lkM_l (by decide : 0 < 4)) rfl (of_eq_true (andL hk)) d_Mo_addPlacement_44 (ws' := wsM G cI cL (wL (wL (wL τ 0 ((32 + (m_Mo_count τ 1)).toNatClampNeg) x0.toInt64) 0 ((92 + (m_Mo_count τ 1)).toNatClampNeg) x1.toInt64) 0 ((152 + (m_Mo_count τ 1)).toNatClampNeg) (yL (wL (wL τ 0 ((32 + (m_Mo_count τ 1)).toNatClampNeg) x0.toInt64) 0 ((92 + (m_Mo_count τ 1)).toNatClampNeg) x1.toInt64) 0 (6 : Int32).toNatClampNeg)) rest) (setM_l (by decide : 0 < 4) _ _) (fun H locs hB => ?_)
  replace hk := andR hk
  refine lv_iconst (v := 0) hx hb d_Mo_addPlacement_45 (by decide) ?_
  refine lv_istore (lv' := [(4, .int 0), (3, .int (m_Mo_count τ 1)), (0, .ref (G 4 0)), (1, .int x0), (2, .int x1)]) hx hb d_Mo_addPlacement_46 hl (by decide) rfl (fun ls hl => ?_)
  exact w_Mo_addPlacement_48   hC ((32 : Int32).toNatClampNeg + 1) (wL (wL (wL τ 0 ((32 + (m_Mo_count τ 1)).toNatClampNeg) x0.toInt64) 0 ((92 + (m_Mo_count τ 1)).toNatClampNeg) x1.toInt64) 0 ((152 + (m_Mo_count τ 1)).toNatClampNeg) (yL (wL (wL τ 0 ((32 + (m_Mo_count τ 1)).toNatClampNeg) x0.toInt64) 0 ((92 + (m_Mo_count τ 1)).toNatClampNeg) x1.toInt64) 0 (6 : Int32).toNatClampNeg)) x0 x1 (m_Mo_count τ 1) 0 (up_init _) hR hk _ _ hB ls (lv_sub hl [2, 3, 4, 1, 0] rfl)

set_option maxHeartbeats 400000 in
set_option maxRecDepth 100000 in
theorem c_Mo_place  (τ : SM)  (x0 : Int32) (x1 : Int32) (hk : (k_Mo_place τ x0 x1) = True) : CM l y_Mo_place b_Mo_place 4 (some .int) { frames := 4, cells := 0, slots := 0, locals := 90 } D (tyL cI cL cQ) N0 N0 [.ref (G 4 0), .int x0, .int x1] (wsM G cI cL τ rest) (some (.int ((m_Mo_place τ x0 x1).1))) (fun w => w = wsM G cI cL ((m_Mo_place τ x0 x1).2) rest) 0 0 := by
  generalize hR : m_Mo_place τ x0 x1 = RES
  obtain ⟨RV, RS⟩ := RES
  dsimp only
  refine met_of (own := R_Mo) (by decide) rfl nwl_ok ?_
  intro p e s m below meth c hC hin hB
  have hx := hC.1
  have hb := hC.2.1
  have hl := lv_entry ([.ref (G 4 0), .int x0, .int x1]) (n := 4) (Nat.le_of_ble_eq_true rfl)
  rw [lg_entry_eq]
  generalize (lg_sl ([.ref (G 4 0), .int x0, .int x1]) ++ List.replicate (4 - (lg_sl ([.ref (G 4 0), .int x0, .int x1])).length) Slot.unset).toArray = ls at hl ⊢
  have hl : lv_has ls 4 [(0, .ref (G 4 0)), (1, .int x0), (2, .int x1)] := hl
  rw [m_Mo_place] at hR
  rw [k_Mo_place] at hk
  refine lv_aload_n hx hb d_Mo_place_0 rfl (lv_at hl 0 rfl) ?_
  refine lv_aload_n hx hb d_Mo_place_1 rfl (lv_at hl 0 rfl) ?_
  refine lv_iload_n hx hb d_Mo_place_2 rfl (lv_at hl 1 rfl) ?_
  refine kV hC hB _ lkM_o rfl (c_Mo_isSheet τ  x0 (andL hk)) allw_ok mf_Mo_isSheet kw_979 ks_32 kw_977 ⟨rfl, rfl, Nat.le_of_ble_eq_true rfl, Nat.le_of_ble_eq_true rfl⟩ rfl rfl hl.1 (Nat.le_of_ble_eq_true rfl) d_Mo_place_3 ⟨Nat.le_of_ble_eq_true rfl, Nat.le_of_ble_eq_true rfl⟩ (roK fun H locs hB => ?_)
  replace hk := andR hk
  refine lv_if_eq (tgt := 21) hx hb d_Mo_place_6 (by decide) (fun c_1 => ?_) (fun c_1 => ?_)
  · rw [if_pos c_1] at hR hk
    refine lv_iconst (v := 1) hx hb d_Mo_place_21 (by decide) ?_
    refine pt (ty := .int) rfl hC hB _ lkM_o rfl i_Mo t_Mo t_Mo_ok n_Mo 0 (by decide) rfl rfl kw_891 (by decide +kernel) rfl rfl (Nat.le_of_ble_eq_true rfl) d_Mo_place_22 (ws' := wsM G cI cL (wn τ 0 1) rest) setM_n0 (fun H locs hB => ?_)
    refine lv_aload_n hx hb d_Mo_place_25 rfl (lv_at hl 0 rfl) ?_
    refine gt (v := .int 1) hC hB _ lkM_o rfl i_Mo 0 (by decide) rfl kw_891 rfl d_Mo_place_26 ?_
    refine lv_if_eq (tgt := 34) hx hb d_Mo_place_29 (by decide) (fun c_2 => absurd c_2 (by decide)) (fun c_2 => ?_)
    refine lv_iconst (v := 0) hx hb d_Mo_place_32 (by decide) ?_
    obtain ⟨rfl, rfl⟩ := Prod.mk.inj hR
    exact ri hC hB rfl d_Mo_place_33
  · rw [if_neg c_1] at hR hk
    refine lv_aload_n hx hb d_Mo_place_9 rfl (lv_at hl 0 rfl) ?_
    refine lv_iload_n hx hb d_Mo_place_10 rfl (lv_at hl 2 rfl) ?_
    refine kV hC hB _ lkM_o rfl (c_Mo_isSheet τ  x1 (andL hk)) allw_ok mf_Mo_isSheet kw_979 ks_32 kw_977 ⟨rfl, rfl, Nat.le_of_ble_eq_true rfl, Nat.le_of_ble_eq_true rfl⟩ rfl rfl hl.1 (Nat.le_of_ble_eq_true rfl) d_Mo_place_11 ⟨Nat.le_of_ble_eq_true rfl, Nat.le_of_ble_eq_true rfl⟩ (roK fun H locs hB => ?_)
    replace hk := andR hk
    refine lv_if_eq (tgt := 21) hx hb d_Mo_place_14 (by decide) (fun c_3 => ?_) (fun c_3 => ?_)
    · rw [if_pos c_3] at hR hk
      refine lv_iconst (v := 1) hx hb d_Mo_place_21 (by decide) ?_
      refine pt (ty := .int) rfl hC hB _ lkM_o rfl i_Mo t_Mo t_Mo_ok n_Mo 0 (by decide) rfl rfl kw_891 (by decide +kernel) rfl rfl (Nat.le_of_ble_eq_true rfl) d_Mo_place_22 (ws' := wsM G cI cL (wn τ 0 1) rest) setM_n0 (fun H locs hB => ?_)
      refine lv_aload_n hx hb d_Mo_place_25 rfl (lv_at hl 0 rfl) ?_
      refine gt (v := .int 1) hC hB _ lkM_o rfl i_Mo 0 (by decide) rfl kw_891 rfl d_Mo_place_26 ?_
      refine lv_if_eq (tgt := 34) hx hb d_Mo_place_29 (by decide) (fun c_4 => absurd c_4 (by decide)) (fun c_4 => ?_)
      refine lv_iconst (v := 0) hx hb d_Mo_place_32 (by decide) ?_
      obtain ⟨rfl, rfl⟩ := Prod.mk.inj hR
      exact ri hC hB rfl d_Mo_place_33
    · rw [if_neg c_3] at hR hk
      refine lv_iconst (v := 0) hx hb d_Mo_place_17 (by decide) ?_
      refine lv_goto (tgt := 22) hx hb d_Mo_place_18 (by decide) ?_
      refine pt (ty := .int) rfl hC hB _ lkM_o rfl i_Mo t_Mo t_Mo_ok n_Mo 0 (by decide) rfl rfl kw_891 (by decide +kernel) rfl rfl (Nat.le_of_ble_eq_true rfl) d_Mo_place_22 (ws' := wsM G cI cL (wn τ 0 0) rest) setM_n0 (fun H locs hB => ?_)
      refine lv_aload_n hx hb d_Mo_place_25 rfl (lv_at hl 0 rfl) ?_
      refine gt (v := .int 0) hC hB _ lkM_o rfl i_Mo 0 (by decide) rfl kw_891 rfl d_Mo_place_26 ?_
      refine lv_if_eq (tgt := 34) hx hb d_Mo_place_29 (by decide) (fun c_5 => ?_) (fun c_5 => absurd c_5 (by decide))
      refine lv_aload_n hx hb d_Mo_place_34 rfl (lv_at hl 0 rfl) ?_
      refine lv_iconst (v := 1) hx hb d_Mo_place_35 (by decide) ?_
      refine kV hC hB _ lkM_o rfl (c_Mo_count (wn τ 0 0)  1 (andL hk)) allw_ok mf_Mo_count kw_963 ks_29 kw_961 ⟨rfl, rfl, Nat.le_of_ble_eq_true rfl, Nat.le_of_ble_eq_true rfl⟩ rfl rfl hl.1 (Nat.le_of_ble_eq_true rfl) d_Mo_place_36 ⟨Nat.le_of_ble_eq_true rfl, Nat.le_of_ble_eq_true rfl⟩ (roK fun H locs hB => ?_)
      replace hk := andR hk
      refine lv_bipush (v := 60) hx hb d_Mo_place_39 (by decide) ?_
      refine lv_icmp_eq (tgt := 53) hx hb d_Mo_place_41 (by decide) (fun c_6 => ?_) (fun c_6 => ?_)
      · rw [if_pos c_6] at hR hk
        refine lv_iconst (v := (-1)) hx hb d_Mo_place_53 (by decide) ?_
        obtain ⟨rfl, rfl⟩ := Prod.mk.inj hR
        exact ri hC hB rfl d_Mo_place_54
      · rw [if_neg c_6] at hR hk
        refine lv_aload_n hx hb d_Mo_place_44 rfl (lv_at hl 0 rfl) ?_
        refine lv_iload_n hx hb d_Mo_place_45 rfl (lv_at hl 1 rfl) ?_
        refine lv_iload_n hx hb d_Mo_place_46 rfl (lv_at hl 2 rfl) ?_
        refine kV hC hB _ lkM_o rfl (c_Mo_liesIn (wn τ 0 0)  x0 x1 (andL hk)) allw_ok mf_Mo_liesIn kw_983 ks_33 kw_981 ⟨rfl, rfl, Nat.le_of_ble_eq_true rfl, Nat.le_of_ble_eq_true rfl⟩ rfl rfl hl.1 (Nat.le_of_ble_eq_true rfl) d_Mo_place_47 ⟨Nat.le_of_ble_eq_true rfl, Nat.le_of_ble_eq_true rfl⟩ (roK fun H locs hB => ?_)
        replace hk := andR hk
        refine lv_if_eq (tgt := 55) hx hb d_Mo_place_50 (by decide) (fun c_7 => ?_) (fun c_7 => ?_)
        · rw [if_pos c_7] at hR hk
          refine lv_aload_n hx hb d_Mo_place_55 rfl (lv_at hl 0 rfl) ?_
          refine kV hC hB _ lkM_o rfl (c_Mo_begin (wn τ 0 0)  (andL hk)) allw_ok mf_Mo_begin kw_967 ks_30 kw_965 ⟨rfl, rfl, Nat.le_of_ble_eq_true rfl, Nat.le_of_ble_eq_true rfl⟩ rfl rfl hl.1 (Nat.le_of_ble_eq_true rfl) d_Mo_place_56 ⟨Nat.le_of_ble_eq_true rfl, Nat.le_of_ble_eq_true rfl⟩ (roK fun H locs hB => ?_)
          replace hk := andR hk
          refine lv_aload_n hx hb d_Mo_place_59 rfl (lv_at hl 0 rfl) ?_
          refine lv_iload_n hx hb d_Mo_place_60 rfl (lv_at hl 1 rfl) ?_
          refine lv_iload_n hx hb d_Mo_place_61 rfl (lv_at hl 2 rfl) ?_
          refine kV hC hB _ lkM_o rfl (c_Mo_addPlacement (m_Mo_begin (wn τ 0 0))  x0 x1 (andL hk)) allw_ok mf_Mo_addPlacement kw_987 ks_34 kw_985 ⟨rfl, rfl, Nat.le_of_ble_eq_true rfl, Nat.le_of_ble_eq_true rfl⟩ rfl rfl hl.1 (Nat.le_of_ble_eq_true rfl) d_Mo_place_62 ⟨Nat.le_of_ble_eq_true rfl, Nat.le_of_ble_eq_true rfl⟩ (roK fun H locs hB => ?_)
          replace hk := andR hk
          refine lv_istore_n (lv' := [(3, .int ((m_Mo_addPlacement (m_Mo_begin (wn τ 0 0)) x0 x1).1)), (0, .ref (G 4 0)), (1, .int x0), (2, .int x1)]) hx hb d_Mo_place_65 rfl hl (by decide) rfl (fun ls hl => ?_)
          refine lv_aload_n hx hb d_Mo_place_66 rfl (lv_at hl 1 rfl) ?_
          refine kV hC hB _ lkM_o rfl (c_Mo_hasRoom ((m_Mo_addPlacement (m_Mo_begin (wn τ 0 0)) x0 x1).2)  (andL hk)) allw_ok mf_Mo_hasRoom kw_991 ks_35 kw_989 ⟨rfl, rfl, Nat.le_of_ble_eq_true rfl, Nat.le_of_ble_eq_true rfl⟩ rfl rfl hl.1 (Nat.le_of_ble_eq_true rfl) d_Mo_place_67 ⟨Nat.le_of_ble_eq_true rfl, Nat.le_of_ble_eq_true rfl⟩ (roK fun H locs hB => ?_)
          replace hk := andR hk
          refine lv_if_ne (tgt := 79) hx hb d_Mo_place_70 (by decide) (fun c_8 => ?_) (fun c_8 => ?_)
          · rw [if_neg c_8] at hR hk
            refine lv_aload_n hx hb d_Mo_place_79 rfl (lv_at hl 1 rfl) ?_
            refine kV hC hB _ lkM_o rfl (c_Mo_done ((m_Mo_hasRoom ((m_Mo_addPlacement (m_Mo_begin (wn τ 0 0)) x0 x1).2)).2)  (andL hk)) allw_ok mf_Mo_done kw_971 ks_31 kw_969 ⟨rfl, rfl, Nat.le_of_ble_eq_true rfl, Nat.le_of_ble_eq_true rfl⟩ rfl rfl hl.1 (Nat.le_of_ble_eq_true rfl) d_Mo_place_80 ⟨Nat.le_of_ble_eq_true rfl, Nat.le_of_ble_eq_true rfl⟩ (roK fun H locs hB => ?_)
            replace hk := andR hk
            refine lv_iload_n hx hb d_Mo_place_83 rfl (lv_at hl 0 rfl) ?_
            obtain ⟨rfl, rfl⟩ := Prod.mk.inj hR
            exact ri hC hB rfl d_Mo_place_84
          · rw [if_pos c_8] at hR hk
            refine lv_aload_n hx hb d_Mo_place_73 rfl (lv_at hl 1 rfl) ?_
            refine kV hC hB _ lkM_o rfl (c_Mo_giveBack ((m_Mo_hasRoom ((m_Mo_addPlacement (m_Mo_begin (wn τ 0 0)) x0 x1).2)).2)  (andL hk)) allw_ok mf_Mo_giveBack kw_1008 ks_39 kw_1006 ⟨rfl, rfl, Nat.le_of_ble_eq_true rfl, Nat.le_of_ble_eq_true rfl⟩ rfl rfl hl.1 (Nat.le_of_ble_eq_true rfl) d_Mo_place_74 ⟨Nat.le_of_ble_eq_true rfl, Nat.le_of_ble_eq_true rfl⟩ (roK fun H locs hB => ?_)
            replace hk := andR hk
            refine lv_iconst (v := (-1)) hx hb d_Mo_place_77 (by decide) ?_
            obtain ⟨rfl, rfl⟩ := Prod.mk.inj hR
            exact ri hC hB rfl d_Mo_place_78
        · rw [if_neg c_7] at hR hk
          refine lv_iconst (v := (-1)) hx hb d_Mo_place_53 (by decide) ?_
          obtain ⟨rfl, rfl⟩ := Prod.mk.inj hR
          exact ri hC hB rfl d_Mo_place_54

set_option maxHeartbeats 400000 in
set_option maxRecDepth 100000 in
theorem w_Mo_remove_45 {p : Program} {e : Env} {s : State} {m : MethodId} {args : Array Value} {below : List Frame} {meth : Method} {c : Code} {RES : Bool × SM}   (hC : cx D classes (tyL cI cL cQ) NWL ALLW N0 p s m args meth c b_Mo_remove 3 (some .boolean) R_Mo) :
    ∀ (n : Nat) (τ : SM) (v1 : Int32) (v2 : Int32), upI n (32 : Int32) v2 → lp_Mo_remove_45 n τ  v1 v2 = RES → (kl_Mo_remove_45 n τ  v1 v2) = True → ∀ (H : Heap) (locs : List Loc), bd D classes N0 N0 (wsM G cI cL τ rest) s H locs → ∀ (ls : Array Slot), lv_has ls 3 [(0, .ref (G 4 0)), (1, .int v1), (2, .int v2)] → W p l e { frames := 2, cells := 0, slots := 0, locals := 42 } s m args below meth c H locs 0 0 (MQ below (qx D classes N0 N0 (some (.int (bi RES.1))) (fun w => w = wsM G cI cL RES.2 rest)) args s 0 0 (ga N0)) (F0 m 45 ls []) := by
  obtain ⟨RV, RS⟩ := RES
  dsimp only
  have hx := hC.1
  have hb := hC.2.1
  intro n
  induction n with
  | zero =>
    intro τ v1 v2 hI
    exact absurd hI up_zero
  | succ n ih =>
    intro τ v1 v2 hI hR hk H locs hB ls hl
    rw [lp_Mo_remove_45] at hR
    rw [kl_Mo_remove_45] at hk
    refine lv_iload_n hx hb d_Mo_remove_45 rfl (lv_at hl 2 rfl) ?_
    refine lv_bipush (v := 32) hx hb d_Mo_remove_46 (by decide) ?_
    refine lv_icmp_ge (tgt := 73) hx hb d_Mo_remove_48 (by decide) (fun c_1 => ?_) (fun c_1 => ?_)
    · rw [if_pos c_1] at hR hk
      refine lv_aload_n hx hb d_Mo_remove_73 rfl (lv_at hl 0 rfl) ?_
      refine kV hC hB _ lkM_o rfl (c_Mo_done τ  (andL hk)) allw_ok mf_Mo_done kw_971 ks_31 kw_969 ⟨rfl, rfl, Nat.le_of_ble_eq_true rfl, Nat.le_of_ble_eq_true rfl⟩ rfl rfl hl.1 (Nat.le_of_ble_eq_true rfl) d_Mo_remove_74 ⟨Nat.le_of_ble_eq_true rfl, Nat.le_of_ble_eq_true rfl⟩ (roK fun H locs hB => ?_)
      replace hk := andR hk
      refine lv_iconst (v := 1) hx hb d_Mo_remove_77 (by decide) ?_
      obtain ⟨rfl, rfl⟩ := Prod.mk.inj hR
      exact rz (b := true) hC hB rfl d_Mo_remove_78
    · rw [if_neg c_1] at hR hk
      refine lv_aload_n hx hb d_Mo_remove_51 rfl (lv_at hl 0 rfl) ?_
      refine gt hC hB _ lkM_o rfl i_Mo 1 (by decide) rfl kw_892 rfl d_Mo_remove_52 ?_
      refine lv_sipush (v := 212) hx hb d_Mo_remove_55 (by decide) ?_
      refine lv_bipush (v := 32) hx hb d_Mo_remove_58 (by decide) ?_
      refine lv_iload_n hx hb d_Mo_remove_60 rfl (lv_at hl 1 rfl) ?_
      refine lv_imul hx hb d_Mo_remove_61 ?_
      refine lv_iadd hx hb d_Mo_remove_62 ?_
      refine lv_iload_n hx hb d_Mo_remove_63 rfl (lv_at hl 2 rfl) ?_
      refine lv_iadd hx hb d_Mo_remove_64 ?_
      refine lv_lconst (v := 0) hx hb d_Mo_remove_65 (by decide) ?_
      refine as_l rfl hC hB _ 1 (lkM_l (by decide : 0 < 4)) rfl (of_eq_true (andL hk)) d_Mo_remove_66 (ws' := wsM G cI cL (wL τ 0 (((212 + (32 * v1)) + v2).toNatClampNeg) 0) rest) (setM_l (by decide : 0 < 4) _ _) (fun H locs hB => ?_)
      replace hk := andR hk
      refine lv_iinc (v := (v2 + 1)) (lv' := [(2, .int (v2 + 1)), (0, .ref (G 4 0)), (1, .int v1)]) hx hb d_Mo_remove_67 hl (k := 2) rfl rfl (by decide) rfl (fun ls hl => ?_)
      refine lv_goto (tgt := 45) hx hb d_Mo_remove_70 (by decide) ?_
      exact ih (wL τ 0 (((212 + (32 * v1)) + v2).toNatClampNeg) 0) v1 (v2 + 1) (up_step hI (by assumption)) hR hk _ _ hB ls (lv_sub hl [1, 2, 0] rfl)

set_option maxHeartbeats 400000 in
set_option maxRecDepth 100000 in
theorem c_Mo_remove  (τ : SM)  (x0 : Int32) (hk : (k_Mo_remove τ x0) = True) : CM l y_Mo_remove b_Mo_remove 3 (some .boolean) { frames := 2, cells := 0, slots := 0, locals := 42 } D (tyL cI cL cQ) N0 N0 [.ref (G 4 0), .int x0] (wsM G cI cL τ rest) (some (.int (bi ((m_Mo_remove τ x0).1)))) (fun w => w = wsM G cI cL ((m_Mo_remove τ x0).2) rest) 0 0 := by
  generalize hR : m_Mo_remove τ x0 = RES
  obtain ⟨RV, RS⟩ := RES
  dsimp only
  refine met_of (own := R_Mo) (by decide) rfl nwl_ok ?_
  intro p e s m below meth c hC hin hB
  have hx := hC.1
  have hb := hC.2.1
  have hl := lv_entry ([.ref (G 4 0), .int x0]) (n := 3) (Nat.le_of_ble_eq_true rfl)
  rw [lg_entry_eq]
  generalize (lg_sl ([.ref (G 4 0), .int x0]) ++ List.replicate (3 - (lg_sl ([.ref (G 4 0), .int x0])).length) Slot.unset).toArray = ls at hl ⊢
  have hl : lv_has ls 3 [(0, .ref (G 4 0)), (1, .int x0)] := hl
  rw [m_Mo_remove] at hR
  rw [k_Mo_remove] at hk
  refine lv_aload_n hx hb d_Mo_remove_0 rfl (lv_at hl 0 rfl) ?_
  refine lv_aload_n hx hb d_Mo_remove_1 rfl (lv_at hl 0 rfl) ?_
  refine lv_iload_n hx hb d_Mo_remove_2 rfl (lv_at hl 1 rfl) ?_
  refine kV hC hB _ lkM_o rfl (c_Mo_isPlacement τ  x0 (andL hk)) allw_ok mf_Mo_isPlacement kw_1016 ks_40 kw_1014 ⟨rfl, rfl, Nat.le_of_ble_eq_true rfl, Nat.le_of_ble_eq_true rfl⟩ rfl rfl hl.1 (Nat.le_of_ble_eq_true rfl) d_Mo_remove_3 ⟨Nat.le_of_ble_eq_true rfl, Nat.le_of_ble_eq_true rfl⟩ (roK fun H locs hB => ?_)
  replace hk := andR hk
  refine lv_if_eq (tgt := 13) hx hb d_Mo_remove_6 (by decide) (fun c_1 => ?_) (fun c_1 => ?_)
  · rw [if_pos c_1] at hR hk
    refine lv_iconst (v := 1) hx hb d_Mo_remove_13 (by decide) ?_
    refine pt (ty := .int) rfl hC hB _ lkM_o rfl i_Mo t_Mo t_Mo_ok n_Mo 0 (by decide) rfl rfl kw_891 (by decide +kernel) rfl rfl (Nat.le_of_ble_eq_true rfl) d_Mo_remove_14 (ws' := wsM G cI cL (wn τ 0 1) rest) setM_n0 (fun H locs hB => ?_)
    refine lv_aload_n hx hb d_Mo_remove_17 rfl (lv_at hl 0 rfl) ?_
    refine gt (v := .int 1) hC hB _ lkM_o rfl i_Mo 0 (by decide) rfl kw_891 rfl d_Mo_remove_18 ?_
    refine lv_if_eq (tgt := 26) hx hb d_Mo_remove_21 (by decide) (fun c_2 => absurd c_2 (by decide)) (fun c_2 => ?_)
    refine lv_iconst (v := 0) hx hb d_Mo_remove_24 (by decide) ?_
    obtain ⟨rfl, rfl⟩ := Prod.mk.inj hR
    exact rz (b := false) hC hB rfl d_Mo_remove_25
  · rw [if_neg c_1] at hR hk
    refine lv_iconst (v := 0) hx hb d_Mo_remove_9 (by decide) ?_
    refine lv_goto (tgt := 14) hx hb d_Mo_remove_10 (by decide) ?_
    refine pt (ty := .int) rfl hC hB _ lkM_o rfl i_Mo t_Mo t_Mo_ok n_Mo 0 (by decide) rfl rfl kw_891 (by decide +kernel) rfl rfl (Nat.le_of_ble_eq_true rfl) d_Mo_remove_14 (ws' := wsM G cI cL (wn τ 0 0) rest) setM_n0 (fun H locs hB => ?_)
    refine lv_aload_n hx hb d_Mo_remove_17 rfl (lv_at hl 0 rfl) ?_
    refine gt (v := .int 0) hC hB _ lkM_o rfl i_Mo 0 (by decide) rfl kw_891 rfl d_Mo_remove_18 ?_
    refine lv_if_eq (tgt := 26) hx hb d_Mo_remove_21 (by decide) (fun c_3 => ?_) (fun c_3 => absurd c_3 (by decide))
    refine lv_aload_n hx hb d_Mo_remove_26 rfl (lv_at hl 0 rfl) ?_
    refine kV hC hB _ lkM_o rfl (c_Mo_begin (wn τ 0 0)  (andL hk)) allw_ok mf_Mo_begin kw_967 ks_30 kw_965 ⟨rfl, rfl, Nat.le_of_ble_eq_true rfl, Nat.le_of_ble_eq_true rfl⟩ rfl rfl hl.1 (Nat.le_of_ble_eq_true rfl) d_Mo_remove_27 ⟨Nat.le_of_ble_eq_true rfl, Nat.le_of_ble_eq_true rfl⟩ (roK fun H locs hB => ?_)
    replace hk := andR hk
    refine lv_aload_n hx hb d_Mo_remove_30 rfl (lv_at hl 0 rfl) ?_
    refine gt hC hB _ lkM_o rfl i_Mo 1 (by decide) rfl kw_892 rfl d_Mo_remove_31 ?_
    refine lv_sipush (v := 152) hx hb d_Mo_remove_34 (by decide) ?_
    refine lv_iload_n hx hb d_Mo_remove_37 rfl (lv_at hl 1 rfl) ?_
    refine lv_iadd hx hb d_Mo_remove_38 ?_
    refine lv_ldc2 (v := (-1)) hx hb hC.2.2.2.2.1 (hC.2.2.2.2.2.1 _ kw_1001) d_Mo_remove_39 ?_
    refine as_l rfl hC hB _ 1 (lkM_l (by decide : 0 < 4)) rfl (of_eq_true (andL hk)) d_Mo_remove_42 (ws' := wsM G cI cL (wL (m_Mo_begin (wn τ 0 0)) 0 ((152 + x0).toNatClampNeg) (-1)) rest) (setM_l (by decide : 0 < 4) _ _) (fun H locs hB => ?_)
    replace hk := andR hk
    refine lv_iconst (v := 0) hx hb d_Mo_remove_43 (by decide) ?_
    refine lv_istore_n (lv' := [(2, .int 0), (0, .ref (G 4 0)), (1, .int x0)]) hx hb d_Mo_remove_44 rfl hl (by decide) rfl (fun ls hl => ?_)
    exact w_Mo_remove_45   hC ((32 : Int32).toNatClampNeg + 1) (wL (m_Mo_begin (wn τ 0 0)) 0 ((152 + x0).toNatClampNeg) (-1)) x0 0 (up_init _) hR hk _ _ hB ls (lv_sub hl [1, 2, 0] rfl)

set_option maxHeartbeats 400000 in
set_option maxRecDepth 100000 in
theorem w_Mo_move_100 {p : Program} {e : Env} {s : State} {m : MethodId} {args : Array Value} {below : List Frame} {meth : Method} {c : Code} {RES : Bool × SM}   (hC : cx D classes (tyL cI cL cQ) NWL ALLW N0 p s m args meth c b_Mo_move 7 (some .boolean) R_Mo) :
    ∀ (n : Nat) (τ : SM) (v1 : Int32) (v2 : Int32) (v3 : Int32) (v4 : Int32), upI n (32 : Int32) v4 → lp_Mo_move_100 n τ  v1 v2 v3 v4 = RES → (kl_Mo_move_100 n τ  v1 v2 v3 v4) = True → ∀ (H : Heap) (locs : List Loc), bd D classes N0 N0 (wsM G cI cL τ rest) s H locs → ∀ (ls : Array Slot), lv_has ls 7 [(0, .ref (G 4 0)), (1, .int v1), (2, .int v2), (3, .int v3), (4, .int v4)] → W p l e { frames := 4, cells := 0, slots := 0, locals := 90 } s m args below meth c H locs 0 0 (MQ below (qx D classes N0 N0 (some (.int (bi RES.1))) (fun w => w = wsM G cI cL RES.2 rest)) args s 0 0 (ga N0)) (F0 m 100 ls []) := by
  obtain ⟨RV, RS⟩ := RES
  dsimp only
  have hx := hC.1
  have hb := hC.2.1
  intro n
  induction n with
  | zero =>
    intro τ v1 v2 v3 v4 hI
    exact absurd hI up_zero
  | succ n ih =>
    intro τ v1 v2 v3 v4 hI hR hk H locs hB ls hl
    rw [lp_Mo_move_100] at hR
    rw [kl_Mo_move_100] at hk
    refine lv_iload hx hb d_Mo_move_100 (lv_at hl 4 rfl) ?_
    refine lv_bipush (v := 32) hx hb d_Mo_move_102 (by decide) ?_
    refine lv_icmp_ge (tgt := 179) hx hb d_Mo_move_104 (by decide) (fun c_1 => ?_) (fun c_1 => ?_)
    · rw [if_pos c_1] at hR hk
      refine lv_aload_n hx hb d_Mo_move_179 rfl (lv_at hl 0 rfl) ?_
      refine kV hC hB _ lkM_o rfl (c_Mo_hasRoom τ  (andL hk)) allw_ok mf_Mo_hasRoom kw_991 ks_35 kw_989 ⟨rfl, rfl, Nat.le_of_ble_eq_true rfl, Nat.le_of_ble_eq_true rfl⟩ rfl rfl hl.1 (Nat.le_of_ble_eq_true rfl) d_Mo_move_180 ⟨Nat.le_of_ble_eq_true rfl, Nat.le_of_ble_eq_true rfl⟩ (roK fun H locs hB => ?_)
      replace hk := andR hk
      refine lv_if_ne (tgt := 192) hx hb d_Mo_move_183 (by decide) (fun c_2 => ?_) (fun c_2 => ?_)
      · rw [if_neg c_2] at hR hk
        refine lv_aload_n hx hb d_Mo_move_192 rfl (lv_at hl 0 rfl) ?_
        refine lv_iload_n hx hb d_Mo_move_193 rfl (lv_at hl 3 rfl) ?_
        refine pt (ty := .int) rfl hC hB _ lkM_o rfl i_Mo t_Mo t_Mo_ok n_Mo 6 (by decide) rfl rfl kw_897 (by decide +kernel) rfl rfl (Nat.le_of_ble_eq_true rfl) d_Mo_move_194 (ws' := wsM G cI cL (wn ((m_Mo_hasRoom τ).2) 3 v3) rest) setM_n3 (fun H locs hB => ?_)
        refine lv_aload_n hx hb d_Mo_move_197 rfl (lv_at hl 0 rfl) ?_
        refine kV hC hB _ lkM_o rfl (c_Mo_done (wn ((m_Mo_hasRoom τ).2) 3 v3)  (andL hk)) allw_ok mf_Mo_done kw_971 ks_31 kw_969 ⟨rfl, rfl, Nat.le_of_ble_eq_true rfl, Nat.le_of_ble_eq_true rfl⟩ rfl rfl hl.1 (Nat.le_of_ble_eq_true rfl) d_Mo_move_198 ⟨Nat.le_of_ble_eq_true rfl, Nat.le_of_ble_eq_true rfl⟩ (roK fun H locs hB => ?_)
        replace hk := andR hk
        refine lv_iconst (v := 1) hx hb d_Mo_move_201 (by decide) ?_
        obtain ⟨rfl, rfl⟩ := Prod.mk.inj hR
        exact rz (b := true) hC hB rfl d_Mo_move_202
      · rw [if_pos c_2] at hR hk
        refine lv_aload_n hx hb d_Mo_move_186 rfl (lv_at hl 0 rfl) ?_
        refine kV hC hB _ lkM_o rfl (c_Mo_giveBack ((m_Mo_hasRoom τ).2)  (andL hk)) allw_ok mf_Mo_giveBack kw_1008 ks_39 kw_1006 ⟨rfl, rfl, Nat.le_of_ble_eq_true rfl, Nat.le_of_ble_eq_true rfl⟩ rfl rfl hl.1 (Nat.le_of_ble_eq_true rfl) d_Mo_move_187 ⟨Nat.le_of_ble_eq_true rfl, Nat.le_of_ble_eq_true rfl⟩ (roK fun H locs hB => ?_)
        replace hk := andR hk
        refine lv_iconst (v := 0) hx hb d_Mo_move_190 (by decide) ?_
        obtain ⟨rfl, rfl⟩ := Prod.mk.inj hR
        exact rz (b := false) hC hB rfl d_Mo_move_191
    · rw [if_neg c_1] at hR hk
      refine lv_aload_n hx hb d_Mo_move_107 rfl (lv_at hl 0 rfl) ?_
      refine gt hC hB _ lkM_o rfl i_Mo 1 (by decide) rfl kw_892 rfl d_Mo_move_108 ?_
      refine lv_sipush (v := 212) hx hb d_Mo_move_111 (by decide) ?_
      refine lv_bipush (v := 32) hx hb d_Mo_move_114 (by decide) ?_
      refine lv_iload_n hx hb d_Mo_move_116 rfl (lv_at hl 1 rfl) ?_
      refine lv_imul hx hb d_Mo_move_117 ?_
      refine lv_iadd hx hb d_Mo_move_118 ?_
      refine lv_iload hx hb d_Mo_move_119 (lv_at hl 4 rfl) ?_
      refine lv_iadd hx hb d_Mo_move_121 ?_
      refine va_lald hx hb hC.2.2.2.2.2.2.2.1.1 hB.1 _ 1 (lkM_l (by decide : 0 < 4)) rfl (of_eq_true (andL hk)) d_Mo_move_122 ?_
      replace hk := andR hk
      refine lv_lstore (lv' := [(5, .long (yL τ 0 ((212 + (32 * v1)) + v4).toNatClampNeg)), (0, .ref (G 4 0)), (1, .int v1), (2, .int v2), (3, .int v3), (4, .int v4)]) hx hb d_Mo_move_123 hl (by decide) rfl (fun ls hl => ?_)
      refine lv_lload hx hb d_Mo_move_125 (lv_at hl 0 rfl) ?_
      refine lv_lconst (v := 0) hx hb d_Mo_move_127 (by decide) ?_
      refine W.lcmp hx hb d_Mo_move_128 ?_
      refine lv_if_eq (tgt := 173) hx hb d_Mo_move_129 (by decide) (fun c_3 => ?_) (fun c_3 => ?_)
      · rw [if_pos c_3] at hR hk
        refine lv_iinc (v := (v4 + 1)) (lv' := [(4, .int (v4 + 1)), (5, .long (yL τ 0 ((212 + (32 * v1)) + v4).toNatClampNeg)), (0, .ref (G 4 0)), (1, .int v1), (2, .int v2), (3, .int v3)]) hx hb d_Mo_move_173 hl (k := 5) rfl rfl (by decide) rfl (fun ls hl => ?_)
        refine lv_goto (tgt := 100) hx hb d_Mo_move_176 (by decide) ?_
        exact ih τ v1 v2 v3 (v4 + 1) (up_step hI (by assumption)) hR hk _ _ hB ls (lv_sub hl [2, 3, 4, 5, 0] rfl)
      · rw [if_neg c_3] at hR hk
        refine lv_aload_n hx hb d_Mo_move_132 rfl (lv_at hl 1 rfl) ?_
        refine lv_iload_n hx hb d_Mo_move_133 rfl (lv_at hl 3 rfl) ?_
        refine lv_i2l hx hb d_Mo_move_134 rfl ?_
        refine lv_lload hx hb d_Mo_move_135 (lv_at hl 0 rfl) ?_
        refine lv_l2i hx hb d_Mo_move_137 rfl ?_
        refine lv_iconst (v := 1) hx hb d_Mo_move_138 (by decide) ?_
        refine lv_isub hx hb d_Mo_move_139 ?_
        refine kV hC hB _ lkM_o rfl (c_Mo_hasName τ  v2.toInt64 ((yL τ 0 ((212 + (32 * v1)) + v4).toNatClampNeg).toInt32 - 1) (andL hk)) allw_ok mf_Mo_hasName kw_1024 ks_41 kw_1022 ⟨rfl, rfl, Nat.le_of_ble_eq_true rfl, Nat.le_of_ble_eq_true rfl⟩ rfl rfl hl.1 (Nat.le_of_ble_eq_true rfl) d_Mo_move_140 ⟨Nat.le_of_ble_eq_true rfl, Nat.le_of_ble_eq_true rfl⟩ (roK fun H locs hB => ?_)
        replace hk := andR hk
        refine lv_if_eq (tgt := 149) hx hb d_Mo_move_143 (by decide) (fun c_4 => ?_) (fun c_4 => ?_)
        · rw [if_pos c_4] at hR hk
          refine lv_aload_n hx hb d_Mo_move_149 rfl (lv_at hl 1 rfl) ?_
          refine gt hC hB _ lkM_o rfl i_Mo 1 (by decide) rfl kw_892 rfl d_Mo_move_150 ?_
          refine lv_sipush (v := 212) hx hb d_Mo_move_153 (by decide) ?_
          refine lv_bipush (v := 32) hx hb d_Mo_move_156 (by decide) ?_
          refine lv_iload_n hx hb d_Mo_move_158 rfl (lv_at hl 2 rfl) ?_
          refine lv_imul hx hb d_Mo_move_159 ?_
          refine lv_iadd hx hb d_Mo_move_160 ?_
          refine lv_iload hx hb d_Mo_move_161 (lv_at hl 5 rfl) ?_
          refine lv_iadd hx hb d_Mo_move_163 ?_
          refine lv_lconst (v := 0) hx hb d_Mo_move_164 (by decide) ?_
          refine as_l rfl hC hB _ 1 (lkM_l (by decide : 0 < 4)) rfl (of_eq_true (andL hk)) d_Mo_move_165 (ws' := wsM G cI cL (wL τ 0 (((212 + (32 * v1)) + v4).toNatClampNeg) 0) rest) (setM_l (by decide : 0 < 4) _ _) (fun H locs hB => ?_)
          replace hk := andR hk
          refine lv_iload_n hx hb d_Mo_move_166 rfl (lv_at hl 4 rfl) ?_
          refine lv_iconst (v := 1) hx hb d_Mo_move_167 (by decide) ?_
          refine lv_iload hx hb d_Mo_move_168 (lv_at hl 5 rfl) ?_
          refine lv_ishl hx hb d_Mo_move_170 ?_
          refine lv_ior hx hb d_Mo_move_171 ?_
          refine lv_istore_n (lv' := [(3, .int (v3 ||| (1 <<< (v4 &&& 31)))), (5, .long (yL τ 0 ((212 + (32 * v1)) + v4).toNatClampNeg)), (0, .ref (G 4 0)), (1, .int v1), (2, .int v2), (4, .int v4)]) hx hb d_Mo_move_172 rfl hl (by decide) rfl (fun ls hl => ?_)
          refine lv_iinc (v := (v4 + 1)) (lv' := [(4, .int (v4 + 1)), (3, .int (v3 ||| (1 <<< (v4 &&& 31)))), (5, .long (yL τ 0 ((212 + (32 * v1)) + v4).toNatClampNeg)), (0, .ref (G 4 0)), (1, .int v1), (2, .int v2)]) hx hb d_Mo_move_173 hl (k := 5) rfl rfl (by decide) rfl (fun ls hl => ?_)
          refine lv_goto (tgt := 100) hx hb d_Mo_move_176 (by decide) ?_
          exact ih (wL τ 0 (((212 + (32 * v1)) + v4).toNatClampNeg) 0) v1 v2 (v3 ||| (1 <<< (v4 &&& 31))) (v4 + 1) (up_step hI (by assumption)) hR hk _ _ hB ls (lv_sub hl [3, 4, 5, 1, 0] rfl)
        · rw [if_neg c_4] at hR hk
          refine lv_goto (tgt := 173) hx hb d_Mo_move_146 (by decide) ?_
          refine lv_iinc (v := (v4 + 1)) (lv' := [(4, .int (v4 + 1)), (5, .long (yL τ 0 ((212 + (32 * v1)) + v4).toNatClampNeg)), (0, .ref (G 4 0)), (1, .int v1), (2, .int v2), (3, .int v3)]) hx hb d_Mo_move_173 hl (k := 5) rfl rfl (by decide) rfl (fun ls hl => ?_)
          refine lv_goto (tgt := 100) hx hb d_Mo_move_176 (by decide) ?_
          exact ih τ v1 v2 v3 (v4 + 1) (up_step hI (by assumption)) hR hk _ _ hB ls (lv_sub hl [2, 3, 4, 5, 0] rfl)

set_option maxHeartbeats 400000 in
set_option maxRecDepth 100000 in
theorem c_Mo_move  (τ : SM)  (x0 : Int32) (x1 : Int32) (hk : (k_Mo_move τ x0 x1) = True) : CM l y_Mo_move b_Mo_move 7 (some .boolean) { frames := 4, cells := 0, slots := 0, locals := 90 } D (tyL cI cL cQ) N0 N0 [.ref (G 4 0), .int x0, .int x1] (wsM G cI cL τ rest) (some (.int (bi ((m_Mo_move τ x0 x1).1)))) (fun w => w = wsM G cI cL ((m_Mo_move τ x0 x1).2) rest) 0 0 := by
  generalize hR : m_Mo_move τ x0 x1 = RES
  obtain ⟨RV, RS⟩ := RES
  dsimp only
  refine met_of (own := R_Mo) (by decide) rfl nwl_ok ?_
  intro p e s m below meth c hC hin hB
  have hx := hC.1
  have hb := hC.2.1
  have hl := lv_entry ([.ref (G 4 0), .int x0, .int x1]) (n := 7) (Nat.le_of_ble_eq_true rfl)
  rw [lg_entry_eq]
  generalize (lg_sl ([.ref (G 4 0), .int x0, .int x1]) ++ List.replicate (7 - (lg_sl ([.ref (G 4 0), .int x0, .int x1])).length) Slot.unset).toArray = ls at hl ⊢
  have hl : lv_has ls 7 [(0, .ref (G 4 0)), (1, .int x0), (2, .int x1)] := hl
  rw [m_Mo_move] at hR
  rw [k_Mo_move] at hk
  refine lv_aload_n hx hb d_Mo_move_0 rfl (lv_at hl 0 rfl) ?_
  refine lv_aload_n hx hb d_Mo_move_1 rfl (lv_at hl 0 rfl) ?_
  refine lv_iload_n hx hb d_Mo_move_2 rfl (lv_at hl 1 rfl) ?_
  refine kV hC hB _ lkM_o rfl (c_Mo_isPlacement τ  x0 (andL hk)) allw_ok mf_Mo_isPlacement kw_1016 ks_40 kw_1014 ⟨rfl, rfl, Nat.le_of_ble_eq_true rfl, Nat.le_of_ble_eq_true rfl⟩ rfl rfl hl.1 (Nat.le_of_ble_eq_true rfl) d_Mo_move_3 ⟨Nat.le_of_ble_eq_true rfl, Nat.le_of_ble_eq_true rfl⟩ (roK fun H locs hB => ?_)
  replace hk := andR hk
  refine lv_if_eq (tgt := 21) hx hb d_Mo_move_6 (by decide) (fun c_1 => ?_) (fun c_1 => ?_)
  · rw [if_pos c_1] at hR hk
    refine lv_iconst (v := 1) hx hb d_Mo_move_21 (by decide) ?_
    refine pt (ty := .int) rfl hC hB _ lkM_o rfl i_Mo t_Mo t_Mo_ok n_Mo 0 (by decide) rfl rfl kw_891 (by decide +kernel) rfl rfl (Nat.le_of_ble_eq_true rfl) d_Mo_move_22 (ws' := wsM G cI cL (wn τ 0 1) rest) setM_n0 (fun H locs hB => ?_)
    refine lv_aload_n hx hb d_Mo_move_25 rfl (lv_at hl 0 rfl) ?_
    refine gt (v := .int 1) hC hB _ lkM_o rfl i_Mo 0 (by decide) rfl kw_891 rfl d_Mo_move_26 ?_
    refine lv_if_ne (tgt := 50) hx hb d_Mo_move_29 (by decide) (fun c_2 => ?_) (fun c_2 => absurd c_2 (by decide))
    refine lv_iconst (v := 0) hx hb d_Mo_move_50 (by decide) ?_
    obtain ⟨rfl, rfl⟩ := Prod.mk.inj hR
    exact rz (b := false) hC hB rfl d_Mo_move_51
  · rw [if_neg c_1] at hR hk
    refine lv_aload_n hx hb d_Mo_move_9 rfl (lv_at hl 0 rfl) ?_
    refine lv_iload_n hx hb d_Mo_move_10 rfl (lv_at hl 2 rfl) ?_
    refine kV hC hB _ lkM_o rfl (c_Mo_isSheet τ  x1 (andL hk)) allw_ok mf_Mo_isSheet kw_979 ks_32 kw_977 ⟨rfl, rfl, Nat.le_of_ble_eq_true rfl, Nat.le_of_ble_eq_true rfl⟩ rfl rfl hl.1 (Nat.le_of_ble_eq_true rfl) d_Mo_move_11 ⟨Nat.le_of_ble_eq_true rfl, Nat.le_of_ble_eq_true rfl⟩ (roK fun H locs hB => ?_)
    replace hk := andR hk
    refine lv_if_eq (tgt := 21) hx hb d_Mo_move_14 (by decide) (fun c_3 => ?_) (fun c_3 => ?_)
    · rw [if_pos c_3] at hR hk
      refine lv_iconst (v := 1) hx hb d_Mo_move_21 (by decide) ?_
      refine pt (ty := .int) rfl hC hB _ lkM_o rfl i_Mo t_Mo t_Mo_ok n_Mo 0 (by decide) rfl rfl kw_891 (by decide +kernel) rfl rfl (Nat.le_of_ble_eq_true rfl) d_Mo_move_22 (ws' := wsM G cI cL (wn τ 0 1) rest) setM_n0 (fun H locs hB => ?_)
      refine lv_aload_n hx hb d_Mo_move_25 rfl (lv_at hl 0 rfl) ?_
      refine gt (v := .int 1) hC hB _ lkM_o rfl i_Mo 0 (by decide) rfl kw_891 rfl d_Mo_move_26 ?_
      refine lv_if_ne (tgt := 50) hx hb d_Mo_move_29 (by decide) (fun c_4 => ?_) (fun c_4 => absurd c_4 (by decide))
      refine lv_iconst (v := 0) hx hb d_Mo_move_50 (by decide) ?_
      obtain ⟨rfl, rfl⟩ := Prod.mk.inj hR
      exact rz (b := false) hC hB rfl d_Mo_move_51
    · rw [if_neg c_3] at hR hk
      refine lv_iconst (v := 0) hx hb d_Mo_move_17 (by decide) ?_
      refine lv_goto (tgt := 22) hx hb d_Mo_move_18 (by decide) ?_
      refine pt (ty := .int) rfl hC hB _ lkM_o rfl i_Mo t_Mo t_Mo_ok n_Mo 0 (by decide) rfl rfl kw_891 (by decide +kernel) rfl rfl (Nat.le_of_ble_eq_true rfl) d_Mo_move_22 (ws' := wsM G cI cL (wn τ 0 0) rest) setM_n0 (fun H locs hB => ?_)
      refine lv_aload_n hx hb d_Mo_move_25 rfl (lv_at hl 0 rfl) ?_
      refine gt (v := .int 0) hC hB _ lkM_o rfl i_Mo 0 (by decide) rfl kw_891 rfl d_Mo_move_26 ?_
      refine lv_if_ne (tgt := 50) hx hb d_Mo_move_29 (by decide) (fun c_5 => absurd c_5 (by decide)) (fun c_5 => ?_)
      refine lv_aload_n hx hb d_Mo_move_32 rfl (lv_at hl 0 rfl) ?_
      refine lv_iload_n hx hb d_Mo_move_33 rfl (lv_at hl 2 rfl) ?_
      refine lv_aload_n hx hb d_Mo_move_34 rfl (lv_at hl 0 rfl) ?_
      refine gt hC hB _ lkM_o rfl i_Mo 1 (by decide) rfl kw_892 rfl d_Mo_move_35 ?_
      refine lv_bipush (v := 92) hx hb d_Mo_move_38 (by decide) ?_
      refine lv_iload_n hx hb d_Mo_move_40 rfl (lv_at hl 1 rfl) ?_
      refine lv_iadd hx hb d_Mo_move_41 ?_
      refine va_lald hx hb hC.2.2.2.2.2.2.2.1.1 hB.1 _ 1 (lkM_l (by decide : 0 < 4)) rfl (of_eq_true (andL hk)) d_Mo_move_42 ?_
      replace hk := andR hk
      refine lv_l2i hx hb d_Mo_move_43 rfl ?_
      refine kV hC hB _ lkM_o rfl (c_Mo_liesIn (wn τ 0 0)  x1 ((yL (wn τ 0 0) 0 (92 + x0).toNatClampNeg).toInt32) (andL hk)) allw_ok mf_Mo_liesIn kw_983 ks_33 kw_981 ⟨rfl, rfl, Nat.le_of_ble_eq_true rfl, Nat.le_of_ble_eq_true rfl⟩ rfl rfl hl.1 (Nat.le_of_ble_eq_true rfl) d_Mo_move_44 ⟨Nat.le_of_ble_eq_true rfl, Nat.le_of_ble_eq_true rfl⟩ (roK fun H locs hB => ?_)
      replace hk := andR hk
      refine lv_if_eq (tgt := 52) hx hb d_Mo_move_47 (by decide) (fun c_6 => ?_) (fun c_6 => ?_)
      · rw [if_pos c_6] at hR hk
        refine lv_aload_n hx hb d_Mo_move_52 rfl (lv_at hl 0 rfl) ?_
        refine kV hC hB _ lkM_o rfl (c_Mo_begin (wn τ 0 0)  (andL hk)) allw_ok mf_Mo_begin kw_967 ks_30 kw_965 ⟨rfl, rfl, Nat.le_of_ble_eq_true rfl, Nat.le_of_ble_eq_true rfl⟩ rfl rfl hl.1 (Nat.le_of_ble_eq_true rfl) d_Mo_move_53 ⟨Nat.le_of_ble_eq_true rfl, Nat.le_of_ble_eq_true rfl⟩ (roK fun H locs hB => ?_)
        replace hk := andR hk
        refine lv_aload_n hx hb d_Mo_move_56 rfl (lv_at hl 0 rfl) ?_
        refine gt hC hB _ lkM_o rfl i_Mo 1 (by decide) rfl kw_892 rfl d_Mo_move_57 ?_
        refine lv_bipush (v := 32) hx hb d_Mo_move_60 (by decide) ?_
        refine lv_iload_n hx hb d_Mo_move_62 rfl (lv_at hl 1 rfl) ?_
        refine lv_iadd hx hb d_Mo_move_63 ?_
        refine lv_iload_n hx hb d_Mo_move_64 rfl (lv_at hl 2 rfl) ?_
        refine lv_i2l hx hb d_Mo_move_65 rfl ?_
        refine as_l rfl hC hB _ 1 (lkM_l (by decide : 0 < 4)) rfl (of_eq_true (andL hk)) d_Mo_move_66 (ws' := wsM G cI cL (wL (m_Mo_begin (wn τ 0 0)) 0 ((32 + x0).toNatClampNeg) x1.toInt64) rest) (setM_l (by decide : 0 < 4) _ _) (fun H locs hB => ?_)
        replace hk := andR hk
        refine lv_aload_n hx hb d_Mo_move_67 rfl (lv_at hl 0 rfl) ?_
        refine gt hC hB _ lkM_o rfl i_Mo 1 (by decide) rfl kw_892 rfl d_Mo_move_68 ?_
        refine lv_sipush (v := 152) hx hb d_Mo_move_71 (by decide) ?_
        refine lv_iload_n hx hb d_Mo_move_74 rfl (lv_at hl 1 rfl) ?_
        refine lv_iadd hx hb d_Mo_move_75 ?_
        refine lv_aload_n hx hb d_Mo_move_76 rfl (lv_at hl 0 rfl) ?_
        refine gt hC hB _ lkM_o rfl i_Mo 1 (by decide) rfl kw_892 rfl d_Mo_move_77 ?_
        refine lv_bipush (v := 6) hx hb d_Mo_move_80 (by decide) ?_
        refine va_lald hx hb hC.2.2.2.2.2.2.2.1.1 hB.1 _ 1 (lkM_l (by decide : 0 < 4)) rfl (of_eq_true (andL hk)) d_Mo_move_82 ?_
        replace hk := andR hk
        refine as_l rfl hC hB _ 1 (lkM_l (by decide : 0 < 4)) rfl (of_eq_true (andL hk)) d_Mo_move_83 (ws' := wsM G cI cL (wL (wL (m_Mo_begin (wn τ 0 0)) 0 ((32 + x0).toNatClampNeg) x1.toInt64) 0 ((152 + x0).toNatClampNeg) (yL (wL (m_Mo_begin (wn τ 0 0)) 0 ((32 + x0).toNatClampNeg) x1.toInt64) 0 (6 : Int32).toNatClampNeg)) rest) (setM_l (by decide : 0 < 4) _ _) (fun H locs hB => ?_)
        replace hk := andR hk
        refine lv_aload_n hx hb d_Mo_move_84 rfl (lv_at hl 0 rfl) ?_
        refine gt hC hB _ lkM_o rfl i_Mo 1 (by decide) rfl kw_892 rfl d_Mo_move_85 ?_
        refine lv_bipush (v := 6) hx hb d_Mo_move_88 (by decide) ?_
        refine lv_dup2_11 hx hb d_Mo_move_90 rfl rfl ?_
        refine va_lald hx hb hC.2.2.2.2.2.2.2.1.1 hB.1 _ 1 (lkM_l (by decide : 0 < 4)) rfl (of_eq_true (andL hk)) d_Mo_move_91 ?_
        replace hk := andR hk
        refine lv_lconst (v := 1) hx hb d_Mo_move_92 (by decide) ?_
        refine lv_ladd hx hb d_Mo_move_93 ?_
        refine as_l rfl hC hB _ 1 (lkM_l (by decide : 0 < 4)) rfl (of_eq_true (andL hk)) d_Mo_move_94 (ws' := wsM G cI cL (wL (wL (wL (m_Mo_begin (wn τ 0 0)) 0 ((32 + x0).toNatClampNeg) x1.toInt64) 0 ((152 + x0).toNatClampNeg) (yL (wL (m_Mo_begin (wn τ 0 0)) 0 ((32 + x0).toNatClampNeg) x1.toInt64) 0 (6 : Int32).toNatClampNeg)) 0 ((6 : Int32).toNatClampNeg) ((yL (wL (wL (m_Mo_begin (wn τ 0 0)) 0 ((32 + x0).toNatClampNeg) x1.toInt64) 0 ((152 + x0).toNatClampNeg) (yL (wL (m_Mo_begin (wn τ 0 0)) 0 ((32 + x0).toNatClampNeg) x1.toInt64) 0 (6 : Int32).toNatClampNeg)) 0 (6 : Int32).toNatClampNeg) + 1)) rest) (setM_l (by decide : 0 < 4) _ _) (fun H locs hB => ?_)
        replace hk := andR hk
        refine lv_iconst (v := 0) hx hb d_Mo_move_95 (by decide) ?_
        refine lv_istore_n (lv' := [(3, .int 0), (0, .ref (G 4 0)), (1, .int x0), (2, .int x1)]) hx hb d_Mo_move_96 rfl hl (by decide) rfl (fun ls hl => ?_)
        refine lv_iconst (v := 0) hx hb d_Mo_move_97 (by decide) ?_
        refine lv_istore (lv' := [(4, .int 0), (3, .int 0), (0, .ref (G 4 0)), (1, .int x0), (2, .int x1)]) hx hb d_Mo_move_98 hl (by decide) rfl (fun ls hl => ?_)
        exact w_Mo_move_100   hC ((32 : Int32).toNatClampNeg + 1) (wL (wL (wL (m_Mo_begin (wn τ 0 0)) 0 ((32 + x0).toNatClampNeg) x1.toInt64) 0 ((152 + x0).toNatClampNeg) (yL (wL (m_Mo_begin (wn τ 0 0)) 0 ((32 + x0).toNatClampNeg) x1.toInt64) 0 (6 : Int32).toNatClampNeg)) 0 ((6 : Int32).toNatClampNeg) ((yL (wL (wL (m_Mo_begin (wn τ 0 0)) 0 ((32 + x0).toNatClampNeg) x1.toInt64) 0 ((152 + x0).toNatClampNeg) (yL (wL (m_Mo_begin (wn τ 0 0)) 0 ((32 + x0).toNatClampNeg) x1.toInt64) 0 (6 : Int32).toNatClampNeg)) 0 (6 : Int32).toNatClampNeg) + 1)) x0 x1 0 0 (up_init _) hR hk _ _ hB ls (lv_sub hl [2, 3, 4, 1, 0] rfl)
      · rw [if_neg c_6] at hR hk
        refine lv_iconst (v := 0) hx hb d_Mo_move_50 (by decide) ?_
        obtain ⟨rfl, rfl⟩ := Prod.mk.inj hR
        exact rz (b := false) hC hB rfl d_Mo_move_51

set_option maxHeartbeats 400000 in
set_option maxRecDepth 100000 in
theorem w_Mo_told_9 {p : Program} {e : Env} {s : State} {m : MethodId} {args : Array Value} {below : List Frame} {meth : Method} {c : Code} {RES : Int32 × SM}   (hC : cx D classes (tyL cI cL cQ) NWL ALLW N0 p s m args meth c b_Mo_told 4 (some .int) R_Mo) :
    ∀ (n : Nat) (τ : SM) (v1 : Int32) (v2 : Int32) (v3 : Int32), upI n (32 : Int32) v3 → lp_Mo_told_9 n τ  v1 v2 v3 = RES → (kl_Mo_told_9 n τ  v1 v2 v3) = True → ∀ (H : Heap) (locs : List Loc), bd D classes N0 N0 (wsM G cI cL τ rest) s H locs → ∀ (ls : Array Slot), lv_has ls 4 [(0, .ref (G 4 0)), (1, .int v1), (2, .int v2), (3, .int v3)] → W p l e { frames := 0, cells := 0, slots := 0, locals := 0 } s m args below meth c H locs 0 0 (MQ below (qx D classes N0 N0 (some (.int RES.1)) (fun w => w = wsM G cI cL RES.2 rest)) args s 0 0 (ga N0)) (F0 m 9 ls []) := by
  obtain ⟨RV, RS⟩ := RES
  dsimp only
  have hx := hC.1
  have hb := hC.2.1
  intro n
  induction n with
  | zero =>
    intro τ v1 v2 v3 hI
    exact absurd hI up_zero
  | succ n ih =>
    intro τ v1 v2 v3 hI hR hk H locs hB ls hl
    rw [lp_Mo_told_9] at hR
    rw [kl_Mo_told_9] at hk
    refine lv_iload_n hx hb d_Mo_told_9 rfl (lv_at hl 3 rfl) ?_
    refine lv_bipush (v := 32) hx hb d_Mo_told_10 (by decide) ?_
    refine lv_icmp_ge (tgt := 48) hx hb d_Mo_told_12 (by decide) (fun c_1 => ?_) (fun c_1 => ?_)
    · rw [if_pos c_1] at hR hk
      refine lv_iconst (v := (-1)) hx hb d_Mo_told_48 (by decide) ?_
      obtain ⟨rfl, rfl⟩ := Prod.mk.inj hR
      exact ri hC hB rfl d_Mo_told_49
    · rw [if_neg c_1] at hR hk
      refine lv_iload_n hx hb d_Mo_told_15 rfl (lv_at hl 1 rfl) ?_
      refine lv_if_lt (tgt := 48) hx hb d_Mo_told_16 (by decide) (fun c_2 => ?_) (fun c_2 => ?_)
      · rw [if_pos c_2] at hR hk
        refine lv_iconst (v := (-1)) hx hb d_Mo_told_48 (by decide) ?_
        obtain ⟨rfl, rfl⟩ := Prod.mk.inj hR
        exact ri hC hB rfl d_Mo_told_49
      · rw [if_neg c_2] at hR hk
        refine lv_aload_n hx hb d_Mo_told_19 rfl (lv_at hl 0 rfl) ?_
        refine gt (v := .int (yn τ 3)) hC hB _ lkM_o rfl i_Mo 6 (by decide) rfl kw_897 rfl d_Mo_told_20 ?_
        refine lv_iload_n hx hb d_Mo_told_23 rfl (lv_at hl 3 rfl) ?_
        refine lv_ishr hx hb d_Mo_told_24 ?_
        refine lv_iconst (v := 1) hx hb d_Mo_told_25 (by decide) ?_
        refine lv_iand hx hb d_Mo_told_26 ?_
        refine lv_if_ne (tgt := 33) hx hb d_Mo_told_27 (by decide) (fun c_3 => ?_) (fun c_3 => ?_)
        · rw [if_neg c_3] at hR hk
          refine lv_iload_n hx hb d_Mo_told_33 rfl (lv_at hl 2 rfl) ?_
          refine lv_if_ne (tgt := 39) hx hb d_Mo_told_34 (by decide) (fun c_4 => ?_) (fun c_4 => ?_)
          · rw [if_neg c_4] at hR hk
            refine lv_iinc (v := (v2 + (-1))) (lv' := [(2, .int (v2 + (-1))), (0, .ref (G 4 0)), (1, .int v1), (3, .int v3)]) hx hb d_Mo_told_39 hl (k := 2) rfl rfl (by decide) rfl (fun ls hl => ?_)
            refine lv_iinc (v := (v3 + 1)) (lv' := [(3, .int (v3 + 1)), (2, .int (v2 + (-1))), (0, .ref (G 4 0)), (1, .int v1)]) hx hb d_Mo_told_42 hl (k := 3) rfl rfl (by decide) rfl (fun ls hl => ?_)
            refine lv_goto (tgt := 9) hx hb d_Mo_told_45 (by decide) ?_
            exact ih τ v1 (v2 + (-1)) (v3 + 1) (up_step hI (by assumption)) hR hk _ _ hB ls (lv_sub hl [2, 3, 1, 0] rfl)
          · rw [if_pos c_4] at hR hk
            refine lv_iload_n hx hb d_Mo_told_37 rfl (lv_at hl 3 rfl) ?_
            obtain ⟨rfl, rfl⟩ := Prod.mk.inj hR
            exact ri hC hB rfl d_Mo_told_38
        · rw [if_pos c_3] at hR hk
          refine lv_goto (tgt := 42) hx hb d_Mo_told_30 (by decide) ?_
          refine lv_iinc (v := (v3 + 1)) (lv' := [(3, .int (v3 + 1)), (0, .ref (G 4 0)), (1, .int v1), (2, .int v2)]) hx hb d_Mo_told_42 hl (k := 3) rfl rfl (by decide) rfl (fun ls hl => ?_)
          refine lv_goto (tgt := 9) hx hb d_Mo_told_45 (by decide) ?_
          exact ih τ v1 v2 (v3 + 1) (up_step hI (by assumption)) hR hk _ _ hB ls (lv_sub hl [1, 2, 3, 0] rfl)

set_option maxHeartbeats 400000 in
set_option maxRecDepth 100000 in
theorem c_Mo_told  (τ : SM)  (x0 : Int32) (hk : (k_Mo_told τ x0) = True) : CM l y_Mo_told b_Mo_told 4 (some .int) { frames := 0, cells := 0, slots := 0, locals := 0 } D (tyL cI cL cQ) N0 N0 [.ref (G 4 0), .int x0] (wsM G cI cL τ rest) (some (.int ((m_Mo_told τ x0).1))) (fun w => w = wsM G cI cL ((m_Mo_told τ x0).2) rest) 0 0 := by
  generalize hR : m_Mo_told τ x0 = RES
  obtain ⟨RV, RS⟩ := RES
  dsimp only
  refine met_of (own := R_Mo) (by decide) rfl nwl_ok ?_
  intro p e s m below meth c hC hin hB
  have hx := hC.1
  have hb := hC.2.1
  have hl := lv_entry ([.ref (G 4 0), .int x0]) (n := 4) (Nat.le_of_ble_eq_true rfl)
  rw [lg_entry_eq]
  generalize (lg_sl ([.ref (G 4 0), .int x0]) ++ List.replicate (4 - (lg_sl ([.ref (G 4 0), .int x0])).length) Slot.unset).toArray = ls at hl ⊢
  have hl : lv_has ls 4 [(0, .ref (G 4 0)), (1, .int x0)] := hl
  rw [m_Mo_told] at hR
  rw [k_Mo_told] at hk
  refine lv_aload_n hx hb d_Mo_told_0 rfl (lv_at hl 0 rfl) ?_
  refine lv_iconst (v := 0) hx hb d_Mo_told_1 (by decide) ?_
  refine pt (ty := .int) rfl hC hB _ lkM_o rfl i_Mo t_Mo t_Mo_ok n_Mo 0 (by decide) rfl rfl kw_891 (by decide +kernel) rfl rfl (Nat.le_of_ble_eq_true rfl) d_Mo_told_2 (ws' := wsM G cI cL (wn τ 0 0) rest) setM_n0 (fun H locs hB => ?_)
  refine lv_iload_n hx hb d_Mo_told_5 rfl (lv_at hl 1 rfl) ?_
  refine lv_istore_n (lv' := [(2, .int x0), (0, .ref (G 4 0)), (1, .int x0)]) hx hb d_Mo_told_6 rfl hl (by decide) rfl (fun ls hl => ?_)
  refine lv_iconst (v := 0) hx hb d_Mo_told_7 (by decide) ?_
  refine lv_istore_n (lv' := [(3, .int 0), (2, .int x0), (0, .ref (G 4 0)), (1, .int x0)]) hx hb d_Mo_told_8 rfl hl (by decide) rfl (fun ls hl => ?_)
  exact w_Mo_told_9   hC ((32 : Int32).toNatClampNeg + 1) (wn τ 0 0) x0 x0 0 (up_init _) hR hk _ _ hB ls (lv_sub hl [2, 3, 1, 0] rfl)

set_option maxHeartbeats 400000 in
set_option maxRecDepth 100000 in
theorem c_Mo_port  (τ : SM)  (x0 : Int32) (x1 : Int32) (hk : (k_Mo_port τ x0 x1) = True) : CM l y_Mo_port b_Mo_port 3 (some .boolean) { frames := 2, cells := 0, slots := 0, locals := 42 } D (tyL cI cL cQ) N0 N0 [.ref (G 4 0), .int x0, .int x1] (wsM G cI cL τ rest) (some (.int (bi ((m_Mo_port τ x0 x1).1)))) (fun w => w = wsM G cI cL ((m_Mo_port τ x0 x1).2) rest) 0 0 := by
  generalize hR : m_Mo_port τ x0 x1 = RES
  obtain ⟨RV, RS⟩ := RES
  dsimp only
  refine met_of (own := R_Mo) (by decide) rfl nwl_ok ?_
  intro p e s m below meth c hC hin hB
  have hx := hC.1
  have hb := hC.2.1
  have hl := lv_entry ([.ref (G 4 0), .int x0, .int x1]) (n := 3) (Nat.le_of_ble_eq_true rfl)
  rw [lg_entry_eq]
  generalize (lg_sl ([.ref (G 4 0), .int x0, .int x1]) ++ List.replicate (3 - (lg_sl ([.ref (G 4 0), .int x0, .int x1])).length) Slot.unset).toArray = ls at hl ⊢
  have hl : lv_has ls 3 [(0, .ref (G 4 0)), (1, .int x0), (2, .int x1)] := hl
  rw [m_Mo_port] at hR
  rw [k_Mo_port] at hk
  refine lv_aload_n hx hb d_Mo_port_0 rfl (lv_at hl 0 rfl) ?_
  refine lv_aload_n hx hb d_Mo_port_1 rfl (lv_at hl 0 rfl) ?_
  refine lv_iload_n hx hb d_Mo_port_2 rfl (lv_at hl 1 rfl) ?_
  refine kV hC hB _ lkM_o rfl (c_Mo_isSheet τ  x0 (andL hk)) allw_ok mf_Mo_isSheet kw_979 ks_32 kw_977 ⟨rfl, rfl, Nat.le_of_ble_eq_true rfl, Nat.le_of_ble_eq_true rfl⟩ rfl rfl hl.1 (Nat.le_of_ble_eq_true rfl) d_Mo_port_3 ⟨Nat.le_of_ble_eq_true rfl, Nat.le_of_ble_eq_true rfl⟩ (roK fun H locs hB => ?_)
  replace hk := andR hk
  refine lv_if_eq (tgt := 20) hx hb d_Mo_port_6 (by decide) (fun c_1 => ?_) (fun c_1 => ?_)
  · rw [if_pos c_1] at hR hk
    refine lv_iconst (v := 1) hx hb d_Mo_port_20 (by decide) ?_
    refine pt (ty := .int) rfl hC hB _ lkM_o rfl i_Mo t_Mo t_Mo_ok n_Mo 0 (by decide) rfl rfl kw_891 (by decide +kernel) rfl rfl (Nat.le_of_ble_eq_true rfl) d_Mo_port_21 (ws' := wsM G cI cL (wn τ 0 1) rest) setM_n0 (fun H locs hB => ?_)
    refine lv_aload_n hx hb d_Mo_port_24 rfl (lv_at hl 0 rfl) ?_
    refine gt (v := .int 1) hC hB _ lkM_o rfl i_Mo 0 (by decide) rfl kw_891 rfl d_Mo_port_25 ?_
    refine lv_if_ne (tgt := 41) hx hb d_Mo_port_28 (by decide) (fun c_2 => ?_) (fun c_2 => absurd c_2 (by decide))
    refine lv_iconst (v := 0) hx hb d_Mo_port_41 (by decide) ?_
    obtain ⟨rfl, rfl⟩ := Prod.mk.inj hR
    exact rz (b := false) hC hB rfl d_Mo_port_42
  · rw [if_neg c_1] at hR hk
    refine lv_iload_n hx hb d_Mo_port_9 rfl (lv_at hl 2 rfl) ?_
    refine kS hC hB (c_Mo_isName τ  x1 (andL hk)) allw_ok mf_Mo_isName kw_1035 kw_1034 ⟨rfl, rfl, Nat.le_of_ble_eq_true rfl, Nat.le_of_ble_eq_true rfl⟩ rfl rfl hl.1 (Nat.le_of_ble_eq_true rfl) d_Mo_port_10 ⟨Nat.le_of_ble_eq_true rfl, Nat.le_of_ble_eq_true rfl⟩ (roK fun H locs hB => ?_)
    replace hk := andR hk
    refine lv_if_eq (tgt := 20) hx hb d_Mo_port_13 (by decide) (fun c_3 => ?_) (fun c_3 => ?_)
    · rw [if_pos c_3] at hR hk
      refine lv_iconst (v := 1) hx hb d_Mo_port_20 (by decide) ?_
      refine pt (ty := .int) rfl hC hB _ lkM_o rfl i_Mo t_Mo t_Mo_ok n_Mo 0 (by decide) rfl rfl kw_891 (by decide +kernel) rfl rfl (Nat.le_of_ble_eq_true rfl) d_Mo_port_21 (ws' := wsM G cI cL (wn τ 0 1) rest) setM_n0 (fun H locs hB => ?_)
      refine lv_aload_n hx hb d_Mo_port_24 rfl (lv_at hl 0 rfl) ?_
      refine gt (v := .int 1) hC hB _ lkM_o rfl i_Mo 0 (by decide) rfl kw_891 rfl d_Mo_port_25 ?_
      refine lv_if_ne (tgt := 41) hx hb d_Mo_port_28 (by decide) (fun c_4 => ?_) (fun c_4 => absurd c_4 (by decide))
      refine lv_iconst (v := 0) hx hb d_Mo_port_41 (by decide) ?_
      obtain ⟨rfl, rfl⟩ := Prod.mk.inj hR
      exact rz (b := false) hC hB rfl d_Mo_port_42
    · rw [if_neg c_3] at hR hk
      refine lv_iconst (v := 0) hx hb d_Mo_port_16 (by decide) ?_
      refine lv_goto (tgt := 21) hx hb d_Mo_port_17 (by decide) ?_
      refine pt (ty := .int) rfl hC hB _ lkM_o rfl i_Mo t_Mo t_Mo_ok n_Mo 0 (by decide) rfl rfl kw_891 (by decide +kernel) rfl rfl (Nat.le_of_ble_eq_true rfl) d_Mo_port_21 (ws' := wsM G cI cL (wn τ 0 0) rest) setM_n0 (fun H locs hB => ?_)
      refine lv_aload_n hx hb d_Mo_port_24 rfl (lv_at hl 0 rfl) ?_
      refine gt (v := .int 0) hC hB _ lkM_o rfl i_Mo 0 (by decide) rfl kw_891 rfl d_Mo_port_25 ?_
      refine lv_if_ne (tgt := 41) hx hb d_Mo_port_28 (by decide) (fun c_5 => absurd c_5 (by decide)) (fun c_5 => ?_)
      refine lv_aload_n hx hb d_Mo_port_31 rfl (lv_at hl 0 rfl) ?_
      refine lv_iload_n hx hb d_Mo_port_32 rfl (lv_at hl 1 rfl) ?_
      refine lv_i2l hx hb d_Mo_port_33 rfl ?_
      refine lv_iload_n hx hb d_Mo_port_34 rfl (lv_at hl 2 rfl) ?_
      refine kV hC hB _ lkM_o rfl (c_Mo_hasName (wn τ 0 0)  x0.toInt64 x1 (andL hk)) allw_ok mf_Mo_hasName kw_1024 ks_41 kw_1022 ⟨rfl, rfl, Nat.le_of_ble_eq_true rfl, Nat.le_of_ble_eq_true rfl⟩ rfl rfl hl.1 (Nat.le_of_ble_eq_true rfl) d_Mo_port_35 ⟨Nat.le_of_ble_eq_true rfl, Nat.le_of_ble_eq_true rfl⟩ (roK fun H locs hB => ?_)
      replace hk := andR hk
      refine lv_if_eq (tgt := 43) hx hb d_Mo_port_38 (by decide) (fun c_6 => ?_) (fun c_6 => ?_)
      · rw [if_pos c_6] at hR hk
        refine lv_aload_n hx hb d_Mo_port_43 rfl (lv_at hl 0 rfl) ?_
        refine kV hC hB _ lkM_o rfl (c_Mo_begin (wn τ 0 0)  (andL hk)) allw_ok mf_Mo_begin kw_967 ks_30 kw_965 ⟨rfl, rfl, Nat.le_of_ble_eq_true rfl, Nat.le_of_ble_eq_true rfl⟩ rfl rfl hl.1 (Nat.le_of_ble_eq_true rfl) d_Mo_port_44 ⟨Nat.le_of_ble_eq_true rfl, Nat.le_of_ble_eq_true rfl⟩ (roK fun H locs hB => ?_)
        replace hk := andR hk
        refine lv_aload_n hx hb d_Mo_port_47 rfl (lv_at hl 0 rfl) ?_
        refine gt hC hB _ lkM_o rfl i_Mo 1 (by decide) rfl kw_892 rfl d_Mo_port_48 ?_
        refine lv_bipush (v := 8) hx hb d_Mo_port_51 (by decide) ?_
        refine lv_iload_n hx hb d_Mo_port_53 rfl (lv_at hl 1 rfl) ?_
        refine lv_iadd hx hb d_Mo_port_54 ?_
        refine lv_aload_n hx hb d_Mo_port_55 rfl (lv_at hl 0 rfl) ?_
        refine gt hC hB _ lkM_o rfl i_Mo 1 (by decide) rfl kw_892 rfl d_Mo_port_56 ?_
        refine lv_bipush (v := 8) hx hb d_Mo_port_59 (by decide) ?_
        refine lv_iload_n hx hb d_Mo_port_61 rfl (lv_at hl 1 rfl) ?_
        refine lv_iadd hx hb d_Mo_port_62 ?_
        refine va_lald hx hb hC.2.2.2.2.2.2.2.1.1 hB.1 _ 1 (lkM_l (by decide : 0 < 4)) rfl (of_eq_true (andL hk)) d_Mo_port_63 ?_
        replace hk := andR hk
        refine lv_lconst (v := 1) hx hb d_Mo_port_64 (by decide) ?_
        refine lv_iload_n hx hb d_Mo_port_65 rfl (lv_at hl 2 rfl) ?_
        refine lv_lshl hx hb d_Mo_port_66 rfl ?_
        refine lv_lor hx hb d_Mo_port_67 ?_
        refine as_l rfl hC hB _ 1 (lkM_l (by decide : 0 < 4)) rfl (of_eq_true (andL hk)) d_Mo_port_68 (ws' := wsM G cI cL (wL (m_Mo_begin (wn τ 0 0)) 0 ((8 + x0).toNatClampNeg) ((yL (m_Mo_begin (wn τ 0 0)) 0 (8 + x0).toNatClampNeg) ||| (1 <<< (x1.toInt64 &&& 63)))) rest) (setM_l (by decide : 0 < 4) _ _) (fun H locs hB => ?_)
        replace hk := andR hk
        refine lv_aload_n hx hb d_Mo_port_69 rfl (lv_at hl 0 rfl) ?_
        refine kV hC hB _ lkM_o rfl (c_Mo_done (wL (m_Mo_begin (wn τ 0 0)) 0 ((8 + x0).toNatClampNeg) ((yL (m_Mo_begin (wn τ 0 0)) 0 (8 + x0).toNatClampNeg) ||| (1 <<< (x1.toInt64 &&& 63))))  (andL hk)) allw_ok mf_Mo_done kw_971 ks_31 kw_969 ⟨rfl, rfl, Nat.le_of_ble_eq_true rfl, Nat.le_of_ble_eq_true rfl⟩ rfl rfl hl.1 (Nat.le_of_ble_eq_true rfl) d_Mo_port_70 ⟨Nat.le_of_ble_eq_true rfl, Nat.le_of_ble_eq_true rfl⟩ (roK fun H locs hB => ?_)
        replace hk := andR hk
        refine lv_iconst (v := 1) hx hb d_Mo_port_73 (by decide) ?_
        obtain ⟨rfl, rfl⟩ := Prod.mk.inj hR
        exact rz (b := true) hC hB rfl d_Mo_port_74
      · rw [if_neg c_6] at hR hk
        refine lv_iconst (v := 0) hx hb d_Mo_port_41 (by decide) ?_
        obtain ⟨rfl, rfl⟩ := Prod.mk.inj hR
        exact rz (b := false) hC hB rfl d_Mo_port_42

set_option maxHeartbeats 400000 in
set_option maxRecDepth 100000 in
theorem c_Mo_join  (τ : SM)  (x0 : Int32) (x1 : Int32) (x2 : Int32) (hk : (k_Mo_join τ x0 x1 x2) = True) : CM l y_Mo_join b_Mo_join 6 (some .boolean) { frames := 2, cells := 0, slots := 0, locals := 42 } D (tyL cI cL cQ) N0 N0 [.ref (G 4 0), .int x0, .int x1, .int x2] (wsM G cI cL τ rest) (some (.int (bi ((m_Mo_join τ x0 x1 x2).1)))) (fun w => w = wsM G cI cL ((m_Mo_join τ x0 x1 x2).2) rest) 0 0 := by
  generalize hR : m_Mo_join τ x0 x1 x2 = RES
  obtain ⟨RV, RS⟩ := RES
  dsimp only
  refine met_of (own := R_Mo) (by decide) rfl nwl_ok ?_
  intro p e s m below meth c hC hin hB
  have hx := hC.1
  have hb := hC.2.1
  have hl := lv_entry ([.ref (G 4 0), .int x0, .int x1, .int x2]) (n := 6) (Nat.le_of_ble_eq_true rfl)
  rw [lg_entry_eq]
  generalize (lg_sl ([.ref (G 4 0), .int x0, .int x1, .int x2]) ++ List.replicate (6 - (lg_sl ([.ref (G 4 0), .int x0, .int x1, .int x2])).length) Slot.unset).toArray = ls at hl ⊢
  have hl : lv_has ls 6 [(0, .ref (G 4 0)), (1, .int x0), (2, .int x1), (3, .int x2)] := hl
  rw [m_Mo_join] at hR
  rw [k_Mo_join] at hk
  refine lv_aload_n hx hb d_Mo_join_0 rfl (lv_at hl 0 rfl) ?_
  refine lv_aload_n hx hb d_Mo_join_1 rfl (lv_at hl 0 rfl) ?_
  refine lv_iload_n hx hb d_Mo_join_2 rfl (lv_at hl 1 rfl) ?_
  refine kV hC hB _ lkM_o rfl (c_Mo_isPlacement τ  x0 (andL hk)) allw_ok mf_Mo_isPlacement kw_1016 ks_40 kw_1014 ⟨rfl, rfl, Nat.le_of_ble_eq_true rfl, Nat.le_of_ble_eq_true rfl⟩ rfl rfl hl.1 (Nat.le_of_ble_eq_true rfl) d_Mo_join_3 ⟨Nat.le_of_ble_eq_true rfl, Nat.le_of_ble_eq_true rfl⟩ (roK fun H locs hB => ?_)
  replace hk := andR hk
  refine lv_if_eq (tgt := 27) hx hb d_Mo_join_6 (by decide) (fun c_1 => ?_) (fun c_1 => ?_)
  · rw [if_pos c_1] at hR hk
    refine lv_iconst (v := 1) hx hb d_Mo_join_27 (by decide) ?_
    refine pt (ty := .int) rfl hC hB _ lkM_o rfl i_Mo t_Mo t_Mo_ok n_Mo 0 (by decide) rfl rfl kw_891 (by decide +kernel) rfl rfl (Nat.le_of_ble_eq_true rfl) d_Mo_join_28 (ws' := wsM G cI cL (wn τ 0 1) rest) setM_n0 (fun H locs hB => ?_)
    refine lv_aload_n hx hb d_Mo_join_31 rfl (lv_at hl 0 rfl) ?_
    refine gt (v := .int 1) hC hB _ lkM_o rfl i_Mo 0 (by decide) rfl kw_891 rfl d_Mo_join_32 ?_
    refine lv_if_eq (tgt := 40) hx hb d_Mo_join_35 (by decide) (fun c_2 => absurd c_2 (by decide)) (fun c_2 => ?_)
    refine lv_iconst (v := 0) hx hb d_Mo_join_38 (by decide) ?_
    obtain ⟨rfl, rfl⟩ := Prod.mk.inj hR
    exact rz (b := false) hC hB rfl d_Mo_join_39
  · rw [if_neg c_1] at hR hk
    refine lv_iload_n hx hb d_Mo_join_9 rfl (lv_at hl 2 rfl) ?_
    refine kS hC hB (c_Mo_isName τ  x1 (andL hk)) allw_ok mf_Mo_isName kw_1035 kw_1034 ⟨rfl, rfl, Nat.le_of_ble_eq_true rfl, Nat.le_of_ble_eq_true rfl⟩ rfl rfl hl.1 (Nat.le_of_ble_eq_true rfl) d_Mo_join_10 ⟨Nat.le_of_ble_eq_true rfl, Nat.le_of_ble_eq_true rfl⟩ (roK fun H locs hB => ?_)
    replace hk := andR hk
    refine lv_if_eq (tgt := 27) hx hb d_Mo_join_13 (by decide) (fun c_3 => ?_) (fun c_3 => ?_)
    · rw [if_pos c_3] at hR hk
      refine lv_iconst (v := 1) hx hb d_Mo_join_27 (by decide) ?_
      refine pt (ty := .int) rfl hC hB _ lkM_o rfl i_Mo t_Mo t_Mo_ok n_Mo 0 (by decide) rfl rfl kw_891 (by decide +kernel) rfl rfl (Nat.le_of_ble_eq_true rfl) d_Mo_join_28 (ws' := wsM G cI cL (wn τ 0 1) rest) setM_n0 (fun H locs hB => ?_)
      refine lv_aload_n hx hb d_Mo_join_31 rfl (lv_at hl 0 rfl) ?_
      refine gt (v := .int 1) hC hB _ lkM_o rfl i_Mo 0 (by decide) rfl kw_891 rfl d_Mo_join_32 ?_
      refine lv_if_eq (tgt := 40) hx hb d_Mo_join_35 (by decide) (fun c_4 => absurd c_4 (by decide)) (fun c_4 => ?_)
      refine lv_iconst (v := 0) hx hb d_Mo_join_38 (by decide) ?_
      obtain ⟨rfl, rfl⟩ := Prod.mk.inj hR
      exact rz (b := false) hC hB rfl d_Mo_join_39
    · rw [if_neg c_3] at hR hk
      refine lv_iload_n hx hb d_Mo_join_16 rfl (lv_at hl 3 rfl) ?_
      refine kS hC hB (c_Mo_isName τ  x2 (andL hk)) allw_ok mf_Mo_isName kw_1035 kw_1034 ⟨rfl, rfl, Nat.le_of_ble_eq_true rfl, Nat.le_of_ble_eq_true rfl⟩ rfl rfl hl.1 (Nat.le_of_ble_eq_true rfl) d_Mo_join_17 ⟨Nat.le_of_ble_eq_true rfl, Nat.le_of_ble_eq_true rfl⟩ (roK fun H locs hB => ?_)
      replace hk := andR hk
      refine lv_if_eq (tgt := 27) hx hb d_Mo_join_20 (by decide) (fun c_5 => ?_) (fun c_5 => ?_)
      · rw [if_pos c_5] at hR hk
        refine lv_iconst (v := 1) hx hb d_Mo_join_27 (by decide) ?_
        refine pt (ty := .int) rfl hC hB _ lkM_o rfl i_Mo t_Mo t_Mo_ok n_Mo 0 (by decide) rfl rfl kw_891 (by decide +kernel) rfl rfl (Nat.le_of_ble_eq_true rfl) d_Mo_join_28 (ws' := wsM G cI cL (wn τ 0 1) rest) setM_n0 (fun H locs hB => ?_)
        refine lv_aload_n hx hb d_Mo_join_31 rfl (lv_at hl 0 rfl) ?_
        refine gt (v := .int 1) hC hB _ lkM_o rfl i_Mo 0 (by decide) rfl kw_891 rfl d_Mo_join_32 ?_
        refine lv_if_eq (tgt := 40) hx hb d_Mo_join_35 (by decide) (fun c_6 => absurd c_6 (by decide)) (fun c_6 => ?_)
        refine lv_iconst (v := 0) hx hb d_Mo_join_38 (by decide) ?_
        obtain ⟨rfl, rfl⟩ := Prod.mk.inj hR
        exact rz (b := false) hC hB rfl d_Mo_join_39
      · rw [if_neg c_5] at hR hk
        refine lv_iconst (v := 0) hx hb d_Mo_join_23 (by decide) ?_
        refine lv_goto (tgt := 28) hx hb d_Mo_join_24 (by decide) ?_
        refine pt (ty := .int) rfl hC hB _ lkM_o rfl i_Mo t_Mo t_Mo_ok n_Mo 0 (by decide) rfl rfl kw_891 (by decide +kernel) rfl rfl (Nat.le_of_ble_eq_true rfl) d_Mo_join_28 (ws' := wsM G cI cL (wn τ 0 0) rest) setM_n0 (fun H locs hB => ?_)
        refine lv_aload_n hx hb d_Mo_join_31 rfl (lv_at hl 0 rfl) ?_
        refine gt (v := .int 0) hC hB _ lkM_o rfl i_Mo 0 (by decide) rfl kw_891 rfl d_Mo_join_32 ?_
        refine lv_if_eq (tgt := 40) hx hb d_Mo_join_35 (by decide) (fun c_7 => ?_) (fun c_7 => absurd c_7 (by decide))
        refine lv_aload_n hx hb d_Mo_join_40 rfl (lv_at hl 0 rfl) ?_
        refine lv_aload_n hx hb d_Mo_join_41 rfl (lv_at hl 0 rfl) ?_
        refine gt hC hB _ lkM_o rfl i_Mo 1 (by decide) rfl kw_892 rfl d_Mo_join_42 ?_
        refine lv_bipush (v := 92) hx hb d_Mo_join_45 (by decide) ?_
        refine lv_iload_n hx hb d_Mo_join_47 rfl (lv_at hl 1 rfl) ?_
        refine lv_iadd hx hb d_Mo_join_48 ?_
        refine va_lald hx hb hC.2.2.2.2.2.2.2.1.1 hB.1 _ 1 (lkM_l (by decide : 0 < 4)) rfl (of_eq_true (andL hk)) d_Mo_join_49 ?_
        replace hk := andR hk
        refine lv_iload_n hx hb d_Mo_join_50 rfl (lv_at hl 2 rfl) ?_
        refine kV hC hB _ lkM_o rfl (c_Mo_hasName (wn τ 0 0)  (yL (wn τ 0 0) 0 (92 + x0).toNatClampNeg) x1 (andL hk)) allw_ok mf_Mo_hasName kw_1024 ks_41 kw_1022 ⟨rfl, rfl, Nat.le_of_ble_eq_true rfl, Nat.le_of_ble_eq_true rfl⟩ rfl rfl hl.1 (Nat.le_of_ble_eq_true rfl) d_Mo_join_51 ⟨Nat.le_of_ble_eq_true rfl, Nat.le_of_ble_eq_true rfl⟩ (roK fun H locs hB => ?_)
        replace hk := andR hk
        refine lv_if_eq (tgt := 78) hx hb d_Mo_join_54 (by decide) (fun c_8 => ?_) (fun c_8 => ?_)
        · rw [if_pos c_8] at hR hk
          refine lv_iconst (v := 0) hx hb d_Mo_join_78 (by decide) ?_
          refine lv_istore (lv' := [(4, .int 0), (0, .ref (G 4 0)), (1, .int x0), (2, .int x1), (3, .int x2)]) hx hb d_Mo_join_79 hl (by decide) rfl (fun ls hl => ?_)
          refine lv_sipush (v := 212) hx hb d_Mo_join_81 (by decide) ?_
          refine lv_bipush (v := 32) hx hb d_Mo_join_84 (by decide) ?_
          refine lv_iload_n hx hb d_Mo_join_86 rfl (lv_at hl 2 rfl) ?_
          refine lv_imul hx hb d_Mo_join_87 ?_
          refine lv_iadd hx hb d_Mo_join_88 ?_
          refine lv_iload_n hx hb d_Mo_join_89 rfl (lv_at hl 3 rfl) ?_
          refine lv_iadd hx hb d_Mo_join_90 ?_
          refine lv_istore (lv' := [(5, .int ((212 + (32 * x0)) + x1)), (4, .int 0), (0, .ref (G 4 0)), (1, .int x0), (2, .int x1), (3, .int x2)]) hx hb d_Mo_join_91 hl (by decide) rfl (fun ls hl => ?_)
          refine lv_iload hx hb d_Mo_join_93 (lv_at hl 1 rfl) ?_
          refine lv_if_eq (tgt := 113) hx hb d_Mo_join_95 (by decide) (fun c_9 => ?_) (fun c_9 => absurd c_9 (by decide))
          refine lv_iconst (v := 0) hx hb d_Mo_join_113 (by decide) ?_
          obtain ⟨rfl, rfl⟩ := Prod.mk.inj hR
          exact rz (b := false) hC hB rfl d_Mo_join_114
        · rw [if_neg c_8] at hR hk
          refine lv_aload_n hx hb d_Mo_join_57 rfl (lv_at hl 0 rfl) ?_
          refine lv_aload_n hx hb d_Mo_join_58 rfl (lv_at hl 0 rfl) ?_
          refine gt hC hB _ lkM_o rfl i_Mo 1 (by decide) rfl kw_892 rfl d_Mo_join_59 ?_
          refine lv_bipush (v := 32) hx hb d_Mo_join_62 (by decide) ?_
          refine lv_iload_n hx hb d_Mo_join_64 rfl (lv_at hl 1 rfl) ?_
          refine lv_iadd hx hb d_Mo_join_65 ?_
          refine va_lald hx hb hC.2.2.2.2.2.2.2.1.1 hB.1 _ 1 (lkM_l (by decide : 0 < 4)) rfl (of_eq_true (andL hk)) d_Mo_join_66 ?_
          replace hk := andR hk
          refine lv_iload_n hx hb d_Mo_join_67 rfl (lv_at hl 3 rfl) ?_
          refine kV hC hB _ lkM_o rfl (c_Mo_hasName (wn τ 0 0)  (yL (wn τ 0 0) 0 (32 + x0).toNatClampNeg) x2 (andL hk)) allw_ok mf_Mo_hasName kw_1024 ks_41 kw_1022 ⟨rfl, rfl, Nat.le_of_ble_eq_true rfl, Nat.le_of_ble_eq_true rfl⟩ rfl rfl hl.1 (Nat.le_of_ble_eq_true rfl) d_Mo_join_68 ⟨Nat.le_of_ble_eq_true rfl, Nat.le_of_ble_eq_true rfl⟩ (roK fun H locs hB => ?_)
          replace hk := andR hk
          refine lv_if_eq (tgt := 78) hx hb d_Mo_join_71 (by decide) (fun c_10 => ?_) (fun c_10 => ?_)
          · rw [if_pos c_10] at hR hk
            refine lv_iconst (v := 0) hx hb d_Mo_join_78 (by decide) ?_
            refine lv_istore (lv' := [(4, .int 0), (0, .ref (G 4 0)), (1, .int x0), (2, .int x1), (3, .int x2)]) hx hb d_Mo_join_79 hl (by decide) rfl (fun ls hl => ?_)
            refine lv_sipush (v := 212) hx hb d_Mo_join_81 (by decide) ?_
            refine lv_bipush (v := 32) hx hb d_Mo_join_84 (by decide) ?_
            refine lv_iload_n hx hb d_Mo_join_86 rfl (lv_at hl 2 rfl) ?_
            refine lv_imul hx hb d_Mo_join_87 ?_
            refine lv_iadd hx hb d_Mo_join_88 ?_
            refine lv_iload_n hx hb d_Mo_join_89 rfl (lv_at hl 3 rfl) ?_
            refine lv_iadd hx hb d_Mo_join_90 ?_
            refine lv_istore (lv' := [(5, .int ((212 + (32 * x0)) + x1)), (4, .int 0), (0, .ref (G 4 0)), (1, .int x0), (2, .int x1), (3, .int x2)]) hx hb d_Mo_join_91 hl (by decide) rfl (fun ls hl => ?_)
            refine lv_iload hx hb d_Mo_join_93 (lv_at hl 1 rfl) ?_
            refine lv_if_eq (tgt := 113) hx hb d_Mo_join_95 (by decide) (fun c_11 => ?_) (fun c_11 => absurd c_11 (by decide))
            refine lv_iconst (v := 0) hx hb d_Mo_join_113 (by decide) ?_
            obtain ⟨rfl, rfl⟩ := Prod.mk.inj hR
            exact rz (b := false) hC hB rfl d_Mo_join_114
          · rw [if_neg c_10] at hR hk
            refine lv_iconst (v := 1) hx hb d_Mo_join_74 (by decide) ?_
            refine lv_goto (tgt := 79) hx hb d_Mo_join_75 (by decide) ?_
            refine lv_istore (lv' := [(4, .int 1), (0, .ref (G 4 0)), (1, .int x0), (2, .int x1), (3, .int x2)]) hx hb d_Mo_join_79 hl (by decide) rfl (fun ls hl => ?_)
            refine lv_sipush (v := 212) hx hb d_Mo_join_81 (by decide) ?_
            refine lv_bipush (v := 32) hx hb d_Mo_join_84 (by decide) ?_
            refine lv_iload_n hx hb d_Mo_join_86 rfl (lv_at hl 2 rfl) ?_
            refine lv_imul hx hb d_Mo_join_87 ?_
            refine lv_iadd hx hb d_Mo_join_88 ?_
            refine lv_iload_n hx hb d_Mo_join_89 rfl (lv_at hl 3 rfl) ?_
            refine lv_iadd hx hb d_Mo_join_90 ?_
            refine lv_istore (lv' := [(5, .int ((212 + (32 * x0)) + x1)), (4, .int 1), (0, .ref (G 4 0)), (1, .int x0), (2, .int x1), (3, .int x2)]) hx hb d_Mo_join_91 hl (by decide) rfl (fun ls hl => ?_)
            refine lv_iload hx hb d_Mo_join_93 (lv_at hl 1 rfl) ?_
            refine lv_if_eq (tgt := 113) hx hb d_Mo_join_95 (by decide) (fun c_12 => absurd c_12 (by decide)) (fun c_12 => ?_)
            refine lv_aload_n hx hb d_Mo_join_98 rfl (lv_at hl 2 rfl) ?_
            refine gt hC hB _ lkM_o rfl i_Mo 1 (by decide) rfl kw_892 rfl d_Mo_join_99 ?_
            refine lv_iload hx hb d_Mo_join_102 (lv_at hl 0 rfl) ?_
            refine va_lald hx hb hC.2.2.2.2.2.2.2.1.1 hB.1 _ 1 (lkM_l (by decide : 0 < 4)) rfl (of_eq_true (andL hk)) d_Mo_join_104 ?_
            replace hk := andR hk
            refine lv_iload_n hx hb d_Mo_join_105 rfl (lv_at hl 5 rfl) ?_
            refine lv_i2l hx hb d_Mo_join_106 rfl ?_
            refine lv_lconst (v := 1) hx hb d_Mo_join_107 (by decide) ?_
            refine lv_ladd hx hb d_Mo_join_108 ?_
            refine W.lcmp hx hb d_Mo_join_109 ?_
            refine lv_if_ne (tgt := 115) hx hb d_Mo_join_110 (by decide) (fun c_13 => ?_) (fun c_13 => ?_)
            · rw [if_neg c_13] at hR hk
              refine lv_aload_n hx hb d_Mo_join_115 rfl (lv_at hl 2 rfl) ?_
              refine kV hC hB _ lkM_o rfl (c_Mo_begin (wn τ 0 0)  (andL hk)) allw_ok mf_Mo_begin kw_967 ks_30 kw_965 ⟨rfl, rfl, Nat.le_of_ble_eq_true rfl, Nat.le_of_ble_eq_true rfl⟩ rfl rfl hl.1 (Nat.le_of_ble_eq_true rfl) d_Mo_join_116 ⟨Nat.le_of_ble_eq_true rfl, Nat.le_of_ble_eq_true rfl⟩ (roK fun H locs hB => ?_)
              replace hk := andR hk
              refine lv_aload_n hx hb d_Mo_join_119 rfl (lv_at hl 2 rfl) ?_
              refine gt hC hB _ lkM_o rfl i_Mo 1 (by decide) rfl kw_892 rfl d_Mo_join_120 ?_
              refine lv_iload hx hb d_Mo_join_123 (lv_at hl 0 rfl) ?_
              refine lv_iload_n hx hb d_Mo_join_125 rfl (lv_at hl 5 rfl) ?_
              refine lv_i2l hx hb d_Mo_join_126 rfl ?_
              refine lv_lconst (v := 1) hx hb d_Mo_join_127 (by decide) ?_
              refine lv_ladd hx hb d_Mo_join_128 ?_
              refine as_l rfl hC hB _ 1 (lkM_l (by decide : 0 < 4)) rfl (of_eq_true (andL hk)) d_Mo_join_129 (ws' := wsM G cI cL (wL (m_Mo_begin (wn τ 0 0)) 0 (((212 + (32 * x0)) + x1).toNatClampNeg) (x2.toInt64 + 1)) rest) (setM_l (by decide : 0 < 4) _ _) (fun H locs hB => ?_)
              replace hk := andR hk
              refine lv_aload_n hx hb d_Mo_join_130 rfl (lv_at hl 2 rfl) ?_
              refine kV hC hB _ lkM_o rfl (c_Mo_done (wL (m_Mo_begin (wn τ 0 0)) 0 (((212 + (32 * x0)) + x1).toNatClampNeg) (x2.toInt64 + 1))  (andL hk)) allw_ok mf_Mo_done kw_971 ks_31 kw_969 ⟨rfl, rfl, Nat.le_of_ble_eq_true rfl, Nat.le_of_ble_eq_true rfl⟩ rfl rfl hl.1 (Nat.le_of_ble_eq_true rfl) d_Mo_join_131 ⟨Nat.le_of_ble_eq_true rfl, Nat.le_of_ble_eq_true rfl⟩ (roK fun H locs hB => ?_)
              replace hk := andR hk
              refine lv_iconst (v := 1) hx hb d_Mo_join_134 (by decide) ?_
              obtain ⟨rfl, rfl⟩ := Prod.mk.inj hR
              exact rz (b := true) hC hB rfl d_Mo_join_135
            · rw [if_pos c_13] at hR hk
              refine lv_iconst (v := 0) hx hb d_Mo_join_113 (by decide) ?_
              obtain ⟨rfl, rfl⟩ := Prod.mk.inj hR
              exact rz (b := false) hC hB rfl d_Mo_join_114

set_option maxHeartbeats 400000 in
set_option maxRecDepth 100000 in
theorem c_Mo_joined  (τ : SM)  (x0 : Int32) (x1 : Int32) (hk : (k_Mo_joined τ x0 x1) = True) : CM l y_Mo_joined b_Mo_joined 3 (some .int) { frames := 2, cells := 0, slots := 0, locals := 42 } D (tyL cI cL cQ) N0 N0 [.ref (G 4 0), .int x0, .int x1] (wsM G cI cL τ rest) (some (.int ((m_Mo_joined τ x0 x1).1))) (fun w => w = wsM G cI cL ((m_Mo_joined τ x0 x1).2) rest) 0 0 := by
  generalize hR : m_Mo_joined τ x0 x1 = RES
  obtain ⟨RV, RS⟩ := RES
  dsimp only
  refine met_of (own := R_Mo) (by decide) rfl nwl_ok ?_
  intro p e s m below meth c hC hin hB
  have hx := hC.1
  have hb := hC.2.1
  have hl := lv_entry ([.ref (G 4 0), .int x0, .int x1]) (n := 3) (Nat.le_of_ble_eq_true rfl)
  rw [lg_entry_eq]
  generalize (lg_sl ([.ref (G 4 0), .int x0, .int x1]) ++ List.replicate (3 - (lg_sl ([.ref (G 4 0), .int x0, .int x1])).length) Slot.unset).toArray = ls at hl ⊢
  have hl : lv_has ls 3 [(0, .ref (G 4 0)), (1, .int x0), (2, .int x1)] := hl
  rw [m_Mo_joined] at hR
  rw [k_Mo_joined] at hk
  refine lv_aload_n hx hb d_Mo_joined_0 rfl (lv_at hl 0 rfl) ?_
  refine lv_aload_n hx hb d_Mo_joined_1 rfl (lv_at hl 0 rfl) ?_
  refine lv_iload_n hx hb d_Mo_joined_2 rfl (lv_at hl 1 rfl) ?_
  refine kV hC hB _ lkM_o rfl (c_Mo_isPlacement τ  x0 (andL hk)) allw_ok mf_Mo_isPlacement kw_1016 ks_40 kw_1014 ⟨rfl, rfl, Nat.le_of_ble_eq_true rfl, Nat.le_of_ble_eq_true rfl⟩ rfl rfl hl.1 (Nat.le_of_ble_eq_true rfl) d_Mo_joined_3 ⟨Nat.le_of_ble_eq_true rfl, Nat.le_of_ble_eq_true rfl⟩ (roK fun H locs hB => ?_)
  replace hk := andR hk
  refine lv_if_eq (tgt := 20) hx hb d_Mo_joined_6 (by decide) (fun c_1 => ?_) (fun c_1 => ?_)
  · rw [if_pos c_1] at hR hk
    refine lv_iconst (v := 1) hx hb d_Mo_joined_20 (by decide) ?_
    refine pt (ty := .int) rfl hC hB _ lkM_o rfl i_Mo t_Mo t_Mo_ok n_Mo 0 (by decide) rfl rfl kw_891 (by decide +kernel) rfl rfl (Nat.le_of_ble_eq_true rfl) d_Mo_joined_21 (ws' := wsM G cI cL (wn τ 0 1) rest) setM_n0 (fun H locs hB => ?_)
    refine lv_aload_n hx hb d_Mo_joined_24 rfl (lv_at hl 0 rfl) ?_
    refine gt (v := .int 1) hC hB _ lkM_o rfl i_Mo 0 (by decide) rfl kw_891 rfl d_Mo_joined_25 ?_
    refine lv_if_ne (tgt := 52) hx hb d_Mo_joined_28 (by decide) (fun c_2 => ?_) (fun c_2 => absurd c_2 (by decide))
    refine lv_iconst (v := 0) hx hb d_Mo_joined_52 (by decide) ?_
    obtain ⟨rfl, rfl⟩ := Prod.mk.inj hR
    exact ri hC hB rfl d_Mo_joined_53
  · rw [if_neg c_1] at hR hk
    refine lv_iload_n hx hb d_Mo_joined_9 rfl (lv_at hl 2 rfl) ?_
    refine kS hC hB (c_Mo_isName τ  x1 (andL hk)) allw_ok mf_Mo_isName kw_1035 kw_1034 ⟨rfl, rfl, Nat.le_of_ble_eq_true rfl, Nat.le_of_ble_eq_true rfl⟩ rfl rfl hl.1 (Nat.le_of_ble_eq_true rfl) d_Mo_joined_10 ⟨Nat.le_of_ble_eq_true rfl, Nat.le_of_ble_eq_true rfl⟩ (roK fun H locs hB => ?_)
    replace hk := andR hk
    refine lv_if_eq (tgt := 20) hx hb d_Mo_joined_13 (by decide) (fun c_3 => ?_) (fun c_3 => ?_)
    · rw [if_pos c_3] at hR hk
      refine lv_iconst (v := 1) hx hb d_Mo_joined_20 (by decide) ?_
      refine pt (ty := .int) rfl hC hB _ lkM_o rfl i_Mo t_Mo t_Mo_ok n_Mo 0 (by decide) rfl rfl kw_891 (by decide +kernel) rfl rfl (Nat.le_of_ble_eq_true rfl) d_Mo_joined_21 (ws' := wsM G cI cL (wn τ 0 1) rest) setM_n0 (fun H locs hB => ?_)
      refine lv_aload_n hx hb d_Mo_joined_24 rfl (lv_at hl 0 rfl) ?_
      refine gt (v := .int 1) hC hB _ lkM_o rfl i_Mo 0 (by decide) rfl kw_891 rfl d_Mo_joined_25 ?_
      refine lv_if_ne (tgt := 52) hx hb d_Mo_joined_28 (by decide) (fun c_4 => ?_) (fun c_4 => absurd c_4 (by decide))
      refine lv_iconst (v := 0) hx hb d_Mo_joined_52 (by decide) ?_
      obtain ⟨rfl, rfl⟩ := Prod.mk.inj hR
      exact ri hC hB rfl d_Mo_joined_53
    · rw [if_neg c_3] at hR hk
      refine lv_iconst (v := 0) hx hb d_Mo_joined_16 (by decide) ?_
      refine lv_goto (tgt := 21) hx hb d_Mo_joined_17 (by decide) ?_
      refine pt (ty := .int) rfl hC hB _ lkM_o rfl i_Mo t_Mo t_Mo_ok n_Mo 0 (by decide) rfl rfl kw_891 (by decide +kernel) rfl rfl (Nat.le_of_ble_eq_true rfl) d_Mo_joined_21 (ws' := wsM G cI cL (wn τ 0 0) rest) setM_n0 (fun H locs hB => ?_)
      refine lv_aload_n hx hb d_Mo_joined_24 rfl (lv_at hl 0 rfl) ?_
      refine gt (v := .int 0) hC hB _ lkM_o rfl i_Mo 0 (by decide) rfl kw_891 rfl d_Mo_joined_25 ?_
      refine lv_if_ne (tgt := 52) hx hb d_Mo_joined_28 (by decide) (fun c_5 => absurd c_5 (by decide)) (fun c_5 => ?_)
      refine lv_aload_n hx hb d_Mo_joined_31 rfl (lv_at hl 0 rfl) ?_
      refine gt hC hB _ lkM_o rfl i_Mo 1 (by decide) rfl kw_892 rfl d_Mo_joined_32 ?_
      refine lv_sipush (v := 212) hx hb d_Mo_joined_35 (by decide) ?_
      refine lv_bipush (v := 32) hx hb d_Mo_joined_38 (by decide) ?_
      refine lv_iload_n hx hb d_Mo_joined_40 rfl (lv_at hl 1 rfl) ?_
      refine lv_imul hx hb d_Mo_joined_41 ?_
      refine lv_iadd hx hb d_Mo_joined_42 ?_
      refine lv_iload_n hx hb d_Mo_joined_43 rfl (lv_at hl 2 rfl) ?_
      refine lv_iadd hx hb d_Mo_joined_44 ?_
      refine va_lald hx hb hC.2.2.2.2.2.2.2.1.1 hB.1 _ 1 (lkM_l (by decide : 0 < 4)) rfl (of_eq_true (andL hk)) d_Mo_joined_45 ?_
      replace hk := andR hk
      refine lv_l2i hx hb d_Mo_joined_46 rfl ?_
      refine lv_iconst (v := 1) hx hb d_Mo_joined_47 (by decide) ?_
      refine lv_isub hx hb d_Mo_joined_48 ?_
      refine lv_goto (tgt := 53) hx hb d_Mo_joined_49 (by decide) ?_
      obtain ⟨rfl, rfl⟩ := Prod.mk.inj hR
      exact ri hC hB rfl d_Mo_joined_53

set_option maxHeartbeats 400000 in
set_option maxRecDepth 100000 in
theorem w_Mo_addPart_34 {p : Program} {e : Env} {s : State} {m : MethodId} {args : Array Value} {below : List Frame} {meth : Method} {c : Code} {RES : Int32 × SM}   (hC : cx D classes (tyL cI cL cQ) NWL ALLW N0 p s m args meth c b_Mo_addPart 7 (some .int) R_Mo) :
    ∀ (n : Nat) (τ : SM) (v1 : Int64) (v3 : Int64) (v5 : Int32) (v6 : Int32), upI n (8 : Int32) v6 → lp_Mo_addPart_34 n τ  v1 v3 v5 v6 = RES → (kl_Mo_addPart_34 n τ  v1 v3 v5 v6) = True → ∀ (H : Heap) (locs : List Loc), bd D classes N0 N0 (wsM G cI cL τ rest) s H locs → ∀ (ls : Array Slot), lv_has ls 7 [(0, .ref (G 4 0)), (1, .long v1), (3, .long v3), (5, .int v5), (6, .int v6)] → W p l e { frames := 1, cells := 0, slots := 0, locals := 21 } s m args below meth c H locs 0 0 (MQ below (qx D classes N0 N0 (some (.int RES.1)) (fun w => w = wsM G cI cL RES.2 rest)) args s 0 0 (ga N0)) (F0 m 34 ls []) := by
  obtain ⟨RV, RS⟩ := RES
  dsimp only
  have hx := hC.1
  have hb := hC.2.1
  intro n
  induction n with
  | zero =>
    intro τ v1 v3 v5 v6 hI
    exact absurd hI up_zero
  | succ n ih =>
    intro τ v1 v3 v5 v6 hI hR hk H locs hB ls hl
    rw [lp_Mo_addPart_34] at hR
    rw [kl_Mo_addPart_34] at hk
    refine lv_iload hx hb d_Mo_addPart_34 (lv_at hl 4 rfl) ?_
    refine lv_bipush (v := 8) hx hb d_Mo_addPart_36 (by decide) ?_
    refine lv_icmp_ge (tgt := 65) hx hb d_Mo_addPart_38 (by decide) (fun c_1 => ?_) (fun c_1 => ?_)
    · rw [if_pos c_1] at hR hk
      refine lv_aload_n hx hb d_Mo_addPart_65 rfl (lv_at hl 0 rfl) ?_
      refine gt hC hB _ lkM_o rfl i_Mo 1 (by decide) rfl kw_892 rfl d_Mo_addPart_66 ?_
      refine lv_iconst (v := 2) hx hb d_Mo_addPart_69 (by decide) ?_
      refine lv_dup2_11 hx hb d_Mo_addPart_70 rfl rfl ?_
      refine va_lald hx hb hC.2.2.2.2.2.2.2.1.1 hB.1 _ 1 (lkM_l (by decide : 0 < 4)) rfl (of_eq_true (andL hk)) d_Mo_addPart_71 ?_
      replace hk := andR hk
      refine lv_lconst (v := 1) hx hb d_Mo_addPart_72 (by decide) ?_
      refine lv_ladd hx hb d_Mo_addPart_73 ?_
      refine as_l rfl hC hB _ 1 (lkM_l (by decide : 0 < 4)) rfl (of_eq_true (andL hk)) d_Mo_addPart_74 (ws' := wsM G cI cL (wL τ 0 ((2 : Int32).toNatClampNeg) ((yL τ 0 (2 : Int32).toNatClampNeg) + 1)) rest) (setM_l (by decide : 0 < 4) _ _) (fun H locs hB => ?_)
      replace hk := andR hk
      refine lv_iload hx hb d_Mo_addPart_75 (lv_at hl 3 rfl) ?_
      obtain ⟨rfl, rfl⟩ := Prod.mk.inj hR
      exact ri hC hB rfl d_Mo_addPart_77
    · rw [if_neg c_1] at hR hk
      refine lv_aload_n hx hb d_Mo_addPart_41 rfl (lv_at hl 0 rfl) ?_
      refine gt hC hB _ lkM_o rfl i_Mo 1 (by decide) rfl kw_892 rfl d_Mo_addPart_42 ?_
      refine lv_sipush (v := 2192) hx hb d_Mo_addPart_45 (by decide) ?_
      refine lv_bipush (v := 8) hx hb d_Mo_addPart_48 (by decide) ?_
      refine lv_iload hx hb d_Mo_addPart_50 (lv_at hl 3 rfl) ?_
      refine lv_imul hx hb d_Mo_addPart_52 ?_
      refine lv_iadd hx hb d_Mo_addPart_53 ?_
      refine lv_iload hx hb d_Mo_addPart_54 (lv_at hl 4 rfl) ?_
      refine lv_iadd hx hb d_Mo_addPart_56 ?_
      refine lv_lconst (v := 0) hx hb d_Mo_addPart_57 (by decide) ?_
      refine as_l rfl hC hB _ 1 (lkM_l (by decide : 0 < 4)) rfl (of_eq_true (andL hk)) d_Mo_addPart_58 (ws' := wsM G cI cL (wL τ 0 (((2192 + (8 * v5)) + v6).toNatClampNeg) 0) rest) (setM_l (by decide : 0 < 4) _ _) (fun H locs hB => ?_)
      replace hk := andR hk
      refine lv_iinc (v := (v6 + 1)) (lv' := [(6, .int (v6 + 1)), (0, .ref (G 4 0)), (1, .long v1), (3, .long v3), (5, .int v5)]) hx hb d_Mo_addPart_59 hl (k := 4) rfl rfl (by decide) rfl (fun ls hl => ?_)
      refine lv_goto (tgt := 34) hx hb d_Mo_addPart_62 (by decide) ?_
      exact ih (wL τ 0 (((2192 + (8 * v5)) + v6).toNatClampNeg) 0) v1 v3 v5 (v6 + 1) (up_step hI (by assumption)) hR hk _ _ hB ls (lv_sub hl [1, 2, 3, 4, 0] rfl)

set_option maxHeartbeats 400000 in
set_option maxRecDepth 100000 in
theorem c_Mo_addPart  (τ : SM)  (x0 : Int64) (x1 : Int64) (hk : (k_Mo_addPart τ x0 x1) = True) : CM l y_Mo_addPart b_Mo_addPart 7 (some .int) { frames := 1, cells := 0, slots := 0, locals := 21 } D (tyL cI cL cQ) N0 N0 [.ref (G 4 0), .long x0, .long x1] (wsM G cI cL τ rest) (some (.int ((m_Mo_addPart τ x0 x1).1))) (fun w => w = wsM G cI cL ((m_Mo_addPart τ x0 x1).2) rest) 0 0 := by
  generalize hR : m_Mo_addPart τ x0 x1 = RES
  obtain ⟨RV, RS⟩ := RES
  dsimp only
  refine met_of (own := R_Mo) (by decide) rfl nwl_ok ?_
  intro p e s m below meth c hC hin hB
  have hx := hC.1
  have hb := hC.2.1
  have hl := lv_entry ([.ref (G 4 0), .long x0, .long x1]) (n := 7) (Nat.le_of_ble_eq_true rfl)
  rw [lg_entry_eq]
  generalize (lg_sl ([.ref (G 4 0), .long x0, .long x1]) ++ List.replicate (7 - (lg_sl ([.ref (G 4 0), .long x0, .long x1])).length) Slot.unset).toArray = ls at hl ⊢
  have hl : lv_has ls 7 [(0, .ref (G 4 0)), (1, .long x0), (3, .long x1)] := hl
  rw [m_Mo_addPart] at hR
  rw [k_Mo_addPart] at hk
  refine lv_aload_n hx hb d_Mo_addPart_0 rfl (lv_at hl 0 rfl) ?_
  refine lv_iconst (v := 2) hx hb d_Mo_addPart_1 (by decide) ?_
  refine kV hC hB _ lkM_o rfl (c_Mo_count τ  2 (andL hk)) allw_ok mf_Mo_count kw_963 ks_29 kw_961 ⟨rfl, rfl, Nat.le_of_ble_eq_true rfl, Nat.le_of_ble_eq_true rfl⟩ rfl rfl hl.1 (Nat.le_of_ble_eq_true rfl) d_Mo_addPart_2 ⟨Nat.le_of_ble_eq_true rfl, Nat.le_of_ble_eq_true rfl⟩ (roK fun H locs hB => ?_)
  replace hk := andR hk
  refine lv_istore (lv' := [(5, .int (m_Mo_count τ 2)), (0, .ref (G 4 0)), (1, .long x0), (3, .long x1)]) hx hb d_Mo_addPart_5 hl (by decide) rfl (fun ls hl => ?_)
  refine lv_aload_n hx hb d_Mo_addPart_7 rfl (lv_at hl 1 rfl) ?_
  refine gt hC hB _ lkM_o rfl i_Mo 1 (by decide) rfl kw_892 rfl d_Mo_addPart_8 ?_
  refine lv_sipush (v := 2132) hx hb d_Mo_addPart_11 (by decide) ?_
  refine lv_iload hx hb d_Mo_addPart_14 (lv_at hl 0 rfl) ?_
  refine lv_iadd hx hb d_Mo_addPart_16 ?_
  refine lv_lload_n hx hb d_Mo_addPart_17 rfl (lv_at hl 2 rfl) ?_
  refine as_l rfl hC hB _ 1 (lkM_l (by decide : 0 < 4)) rfl (of_eq_true (andL hk)) d_Mo_addPart_18 (ws' := wsM G cI cL (wL τ 0 ((2132 + (m_Mo_count τ 2)).toNatClampNeg) x0) rest) (setM_l (by decide : 0 < 4) _ _) (fun H locs hB => ?_)
  replace hk := andR hk
  refine lv_aload_n hx hb d_Mo_addPart_19 rfl (lv_at hl 1 rfl) ?_
  refine gt hC hB _ lkM_o rfl i_Mo 1 (by decide) rfl kw_892 rfl d_Mo_addPart_20 ?_
  refine lv_sipush (v := 2162) hx hb d_Mo_addPart_23 (by decide) ?_
  refine lv_iload hx hb d_Mo_addPart_26 (lv_at hl 0 rfl) ?_
  refine lv_iadd hx hb d_Mo_addPart_28 ?_
  refine lv_lload_n hx hb d_Mo_addPart_29 rfl (lv_at hl 3 rfl) ?_
  refine as_l rfl hC hB _ 1 (lkM_l (by decide : 0 < 4)) rfl (of_eq_true (andL hk)) d_Mo_addPart_30 (ws' := wsM G cI cL (wL (wL τ 0 ((2132 + (m_Mo_count τ 2)).toNatClampNeg) x0) 0 ((2162 + (m_Mo_count τ 2)).toNatClampNeg) x1) rest) (setM_l (by decide : 0 < 4) _ _) (fun H locs hB => ?_)
  replace hk := andR hk
  refine lv_iconst (v := 0) hx hb d_Mo_addPart_31 (by decide) ?_
  refine lv_istore (lv' := [(6, .int 0), (5, .int (m_Mo_count τ 2)), (0, .ref (G 4 0)), (1, .long x0), (3, .long x1)]) hx hb d_Mo_addPart_32 hl (by decide) rfl (fun ls hl => ?_)
  exact w_Mo_addPart_34   hC ((8 : Int32).toNatClampNeg + 1) (wL (wL τ 0 ((2132 + (m_Mo_count τ 2)).toNatClampNeg) x0) 0 ((2162 + (m_Mo_count τ 2)).toNatClampNeg) x1) x0 x1 (m_Mo_count τ 2) 0 (up_init _) hR hk _ _ hB ls (lv_sub hl [2, 3, 4, 1, 0] rfl)

set_option maxHeartbeats 400000 in
set_option maxRecDepth 100000 in
theorem c_Mo_part  (τ : SM)  (x0 : Int32) (x1 : Int32) (hk : (k_Mo_part τ x0 x1) = True) : CM l y_Mo_part b_Mo_part 4 (some .int) { frames := 2, cells := 0, slots := 0, locals := 47 } D (tyL cI cL cQ) N0 N0 [.ref (G 4 0), .int x0, .int x1] (wsM G cI cL τ rest) (some (.int ((m_Mo_part τ x0 x1).1))) (fun w => w = wsM G cI cL ((m_Mo_part τ x0 x1).2) rest) 0 0 := by
  generalize hR : m_Mo_part τ x0 x1 = RES
  obtain ⟨RV, RS⟩ := RES
  dsimp only
  refine met_of (own := R_Mo) (by decide) rfl nwl_ok ?_
  intro p e s m below meth c hC hin hB
  have hx := hC.1
  have hb := hC.2.1
  have hl := lv_entry ([.ref (G 4 0), .int x0, .int x1]) (n := 4) (Nat.le_of_ble_eq_true rfl)
  rw [lg_entry_eq]
  generalize (lg_sl ([.ref (G 4 0), .int x0, .int x1]) ++ List.replicate (4 - (lg_sl ([.ref (G 4 0), .int x0, .int x1])).length) Slot.unset).toArray = ls at hl ⊢
  have hl : lv_has ls 4 [(0, .ref (G 4 0)), (1, .int x0), (2, .int x1)] := hl
  rw [m_Mo_part] at hR
  rw [k_Mo_part] at hk
  refine lv_aload_n hx hb d_Mo_part_0 rfl (lv_at hl 0 rfl) ?_
  refine lv_iload_n hx hb d_Mo_part_1 rfl (lv_at hl 1 rfl) ?_
  refine lv_if_lt (tgt := 25) hx hb d_Mo_part_2 (by decide) (fun c_1 => ?_) (fun c_1 => ?_)
  · rw [if_pos c_1] at hR hk
    refine lv_iconst (v := 1) hx hb d_Mo_part_25 (by decide) ?_
    refine pt (ty := .int) rfl hC hB _ lkM_o rfl i_Mo t_Mo t_Mo_ok n_Mo 0 (by decide) rfl rfl kw_891 (by decide +kernel) rfl rfl (Nat.le_of_ble_eq_true rfl) d_Mo_part_26 (ws' := wsM G cI cL (wn τ 0 1) rest) setM_n0 (fun H locs hB => ?_)
    refine lv_aload_n hx hb d_Mo_part_29 rfl (lv_at hl 0 rfl) ?_
    refine gt (v := .int 1) hC hB _ lkM_o rfl i_Mo 0 (by decide) rfl kw_891 rfl d_Mo_part_30 ?_
    refine lv_if_eq (tgt := 38) hx hb d_Mo_part_33 (by decide) (fun c_2 => absurd c_2 (by decide)) (fun c_2 => ?_)
    refine lv_iconst (v := 0) hx hb d_Mo_part_36 (by decide) ?_
    obtain ⟨rfl, rfl⟩ := Prod.mk.inj hR
    exact ri hC hB rfl d_Mo_part_37
  · rw [if_neg c_1] at hR hk
    refine lv_iload_n hx hb d_Mo_part_5 rfl (lv_at hl 1 rfl) ?_
    refine lv_bipush (v := 26) hx hb d_Mo_part_6 (by decide) ?_
    refine lv_icmp_ge (tgt := 25) hx hb d_Mo_part_8 (by decide) (fun c_3 => ?_) (fun c_3 => ?_)
    · rw [if_pos c_3] at hR hk
      refine lv_iconst (v := 1) hx hb d_Mo_part_25 (by decide) ?_
      refine pt (ty := .int) rfl hC hB _ lkM_o rfl i_Mo t_Mo t_Mo_ok n_Mo 0 (by decide) rfl rfl kw_891 (by decide +kernel) rfl rfl (Nat.le_of_ble_eq_true rfl) d_Mo_part_26 (ws' := wsM G cI cL (wn τ 0 1) rest) setM_n0 (fun H locs hB => ?_)
      refine lv_aload_n hx hb d_Mo_part_29 rfl (lv_at hl 0 rfl) ?_
      refine gt (v := .int 1) hC hB _ lkM_o rfl i_Mo 0 (by decide) rfl kw_891 rfl d_Mo_part_30 ?_
      refine lv_if_eq (tgt := 38) hx hb d_Mo_part_33 (by decide) (fun c_4 => absurd c_4 (by decide)) (fun c_4 => ?_)
      refine lv_iconst (v := 0) hx hb d_Mo_part_36 (by decide) ?_
      obtain ⟨rfl, rfl⟩ := Prod.mk.inj hR
      exact ri hC hB rfl d_Mo_part_37
    · rw [if_neg c_3] at hR hk
      refine lv_iload_n hx hb d_Mo_part_11 rfl (lv_at hl 2 rfl) ?_
      refine lv_if_le (tgt := 25) hx hb d_Mo_part_12 (by decide) (fun c_5 => ?_) (fun c_5 => ?_)
      · rw [if_pos c_5] at hR hk
        refine lv_iconst (v := 1) hx hb d_Mo_part_25 (by decide) ?_
        refine pt (ty := .int) rfl hC hB _ lkM_o rfl i_Mo t_Mo t_Mo_ok n_Mo 0 (by decide) rfl rfl kw_891 (by decide +kernel) rfl rfl (Nat.le_of_ble_eq_true rfl) d_Mo_part_26 (ws' := wsM G cI cL (wn τ 0 1) rest) setM_n0 (fun H locs hB => ?_)
        refine lv_aload_n hx hb d_Mo_part_29 rfl (lv_at hl 0 rfl) ?_
        refine gt (v := .int 1) hC hB _ lkM_o rfl i_Mo 0 (by decide) rfl kw_891 rfl d_Mo_part_30 ?_
        refine lv_if_eq (tgt := 38) hx hb d_Mo_part_33 (by decide) (fun c_6 => absurd c_6 (by decide)) (fun c_6 => ?_)
        refine lv_iconst (v := 0) hx hb d_Mo_part_36 (by decide) ?_
        obtain ⟨rfl, rfl⟩ := Prod.mk.inj hR
        exact ri hC hB rfl d_Mo_part_37
      · rw [if_neg c_5] at hR hk
        refine lv_iload_n hx hb d_Mo_part_15 rfl (lv_at hl 2 rfl) ?_
        refine lv_bipush (v := 9) hx hb d_Mo_part_16 (by decide) ?_
        refine lv_icmp_ge (tgt := 25) hx hb d_Mo_part_18 (by decide) (fun c_7 => ?_) (fun c_7 => ?_)
        · rw [if_pos c_7] at hR hk
          refine lv_iconst (v := 1) hx hb d_Mo_part_25 (by decide) ?_
          refine pt (ty := .int) rfl hC hB _ lkM_o rfl i_Mo t_Mo t_Mo_ok n_Mo 0 (by decide) rfl rfl kw_891 (by decide +kernel) rfl rfl (Nat.le_of_ble_eq_true rfl) d_Mo_part_26 (ws' := wsM G cI cL (wn τ 0 1) rest) setM_n0 (fun H locs hB => ?_)
          refine lv_aload_n hx hb d_Mo_part_29 rfl (lv_at hl 0 rfl) ?_
          refine gt (v := .int 1) hC hB _ lkM_o rfl i_Mo 0 (by decide) rfl kw_891 rfl d_Mo_part_30 ?_
          refine lv_if_eq (tgt := 38) hx hb d_Mo_part_33 (by decide) (fun c_8 => absurd c_8 (by decide)) (fun c_8 => ?_)
          refine lv_iconst (v := 0) hx hb d_Mo_part_36 (by decide) ?_
          obtain ⟨rfl, rfl⟩ := Prod.mk.inj hR
          exact ri hC hB rfl d_Mo_part_37
        · rw [if_neg c_7] at hR hk
          refine lv_iconst (v := 0) hx hb d_Mo_part_21 (by decide) ?_
          refine lv_goto (tgt := 26) hx hb d_Mo_part_22 (by decide) ?_
          refine pt (ty := .int) rfl hC hB _ lkM_o rfl i_Mo t_Mo t_Mo_ok n_Mo 0 (by decide) rfl rfl kw_891 (by decide +kernel) rfl rfl (Nat.le_of_ble_eq_true rfl) d_Mo_part_26 (ws' := wsM G cI cL (wn τ 0 0) rest) setM_n0 (fun H locs hB => ?_)
          refine lv_aload_n hx hb d_Mo_part_29 rfl (lv_at hl 0 rfl) ?_
          refine gt (v := .int 0) hC hB _ lkM_o rfl i_Mo 0 (by decide) rfl kw_891 rfl d_Mo_part_30 ?_
          refine lv_if_eq (tgt := 38) hx hb d_Mo_part_33 (by decide) (fun c_9 => ?_) (fun c_9 => absurd c_9 (by decide))
          refine lv_aload_n hx hb d_Mo_part_38 rfl (lv_at hl 0 rfl) ?_
          refine lv_iconst (v := 2) hx hb d_Mo_part_39 (by decide) ?_
          refine kV hC hB _ lkM_o rfl (c_Mo_count (wn τ 0 0)  2 (andL hk)) allw_ok mf_Mo_count kw_963 ks_29 kw_961 ⟨rfl, rfl, Nat.le_of_ble_eq_true rfl, Nat.le_of_ble_eq_true rfl⟩ rfl rfl hl.1 (Nat.le_of_ble_eq_true rfl) d_Mo_part_40 ⟨Nat.le_of_ble_eq_true rfl, Nat.le_of_ble_eq_true rfl⟩ (roK fun H locs hB => ?_)
          replace hk := andR hk
          refine lv_bipush (v := 30) hx hb d_Mo_part_43 (by decide) ?_
          refine lv_icmp_ne (tgt := 50) hx hb d_Mo_part_45 (by decide) (fun c_10 => ?_) (fun c_10 => ?_)
          · rw [if_neg c_10] at hR hk
            refine lv_aload_n hx hb d_Mo_part_50 rfl (lv_at hl 0 rfl) ?_
            refine kV hC hB _ lkM_o rfl (c_Mo_begin (wn τ 0 0)  (andL hk)) allw_ok mf_Mo_begin kw_967 ks_30 kw_965 ⟨rfl, rfl, Nat.le_of_ble_eq_true rfl, Nat.le_of_ble_eq_true rfl⟩ rfl rfl hl.1 (Nat.le_of_ble_eq_true rfl) d_Mo_part_51 ⟨Nat.le_of_ble_eq_true rfl, Nat.le_of_ble_eq_true rfl⟩ (roK fun H locs hB => ?_)
            replace hk := andR hk
            refine lv_aload_n hx hb d_Mo_part_54 rfl (lv_at hl 0 rfl) ?_
            refine lv_iload_n hx hb d_Mo_part_55 rfl (lv_at hl 1 rfl) ?_
            refine lv_i2l hx hb d_Mo_part_56 rfl ?_
            refine lv_iload_n hx hb d_Mo_part_57 rfl (lv_at hl 2 rfl) ?_
            refine lv_i2l hx hb d_Mo_part_58 rfl ?_
            refine kV hC hB _ lkM_o rfl (c_Mo_addPart (m_Mo_begin (wn τ 0 0))  x0.toInt64 x1.toInt64 (andL hk)) allw_ok mf_Mo_addPart kw_1051 ks_42 kw_1049 ⟨rfl, rfl, Nat.le_of_ble_eq_true rfl, Nat.le_of_ble_eq_true rfl⟩ rfl rfl hl.1 (Nat.le_of_ble_eq_true rfl) d_Mo_part_59 ⟨Nat.le_of_ble_eq_true rfl, Nat.le_of_ble_eq_true rfl⟩ (roK fun H locs hB => ?_)
            replace hk := andR hk
            refine lv_istore_n (lv' := [(3, .int ((m_Mo_addPart (m_Mo_begin (wn τ 0 0)) x0.toInt64 x1.toInt64).1)), (0, .ref (G 4 0)), (1, .int x0), (2, .int x1)]) hx hb d_Mo_part_62 rfl hl (by decide) rfl (fun ls hl => ?_)
            refine lv_aload_n hx hb d_Mo_part_63 rfl (lv_at hl 1 rfl) ?_
            refine kV hC hB _ lkM_o rfl (c_Mo_done ((m_Mo_addPart (m_Mo_begin (wn τ 0 0)) x0.toInt64 x1.toInt64).2)  (andL hk)) allw_ok mf_Mo_done kw_971 ks_31 kw_969 ⟨rfl, rfl, Nat.le_of_ble_eq_true rfl, Nat.le_of_ble_eq_true rfl⟩ rfl rfl hl.1 (Nat.le_of_ble_eq_true rfl) d_Mo_part_64 ⟨Nat.le_of_ble_eq_true rfl, Nat.le_of_ble_eq_true rfl⟩ (roK fun H locs hB => ?_)
            replace hk := andR hk
            refine lv_iload_n hx hb d_Mo_part_67 rfl (lv_at hl 0 rfl) ?_
            obtain ⟨rfl, rfl⟩ := Prod.mk.inj hR
            exact ri hC hB rfl d_Mo_part_68
          · rw [if_pos c_10] at hR hk
            refine lv_iconst (v := (-1)) hx hb d_Mo_part_48 (by decide) ?_
            obtain ⟨rfl, rfl⟩ := Prod.mk.inj hR
            exact ri hC hB rfl d_Mo_part_49

set_option maxHeartbeats 400000 in
set_option maxRecDepth 100000 in
theorem c_Mo_putGate  (τ : SM)  (x0 : Int32) (x1 : Int32) (hk : (k_Mo_putGate τ x0 x1) = True) : CM l y_Mo_putGate b_Mo_putGate 3 (none) { frames := 0, cells := 0, slots := 0, locals := 0 } D (tyL cI cL cQ) N0 N0 [.ref (G 4 0), .int x0, .int x1] (wsM G cI cL τ rest) (none) (fun w => w = wsM G cI cL (m_Mo_putGate τ x0 x1) rest) 0 0 := by
  generalize hR : m_Mo_putGate τ x0 x1 = RES
  refine met_of (own := R_Mo) (by decide) rfl nwl_ok ?_
  intro p e s m below meth c hC hin hB
  have hx := hC.1
  have hb := hC.2.1
  have hl := lv_entry ([.ref (G 4 0), .int x0, .int x1]) (n := 3) (Nat.le_of_ble_eq_true rfl)
  rw [lg_entry_eq]
  generalize (lg_sl ([.ref (G 4 0), .int x0, .int x1]) ++ List.replicate (3 - (lg_sl ([.ref (G 4 0), .int x0, .int x1])).length) Slot.unset).toArray = ls at hl ⊢
  have hl : lv_has ls 3 [(0, .ref (G 4 0)), (1, .int x0), (2, .int x1)] := hl
  rw [m_Mo_putGate] at hR
  rw [k_Mo_putGate] at hk
  refine lv_aload_n hx hb d_Mo_putGate_0 rfl (lv_at hl 0 rfl) ?_
  refine gt hC hB _ lkM_o rfl i_Mo 1 (by decide) rfl kw_892 rfl d_Mo_putGate_1 ?_
  refine lv_sipush (v := 2192) hx hb d_Mo_putGate_4 (by decide) ?_
  refine lv_iload_n hx hb d_Mo_putGate_7 rfl (lv_at hl 1 rfl) ?_
  refine lv_iadd hx hb d_Mo_putGate_8 ?_
  refine lv_iload_n hx hb d_Mo_putGate_9 rfl (lv_at hl 2 rfl) ?_
  refine lv_i2l hx hb d_Mo_putGate_10 rfl ?_
  refine lv_lconst (v := 1) hx hb d_Mo_putGate_11 (by decide) ?_
  refine lv_ladd hx hb d_Mo_putGate_12 ?_
  refine as_l rfl hC hB _ 1 (lkM_l (by decide : 0 < 4)) rfl (of_eq_true (andL hk)) d_Mo_putGate_13 (ws' := wsM G cI cL (wL τ 0 ((2192 + x0).toNatClampNeg) (x1.toInt64 + 1)) rest) (setM_l (by decide : 0 < 4) _ _) (fun H locs hB => ?_)
  replace hk := andR hk
  refine lv_aload_n hx hb d_Mo_putGate_14 rfl (lv_at hl 0 rfl) ?_
  refine gt hC hB _ lkM_o rfl i_Mo 1 (by decide) rfl kw_892 rfl d_Mo_putGate_15 ?_
  refine lv_sipush (v := 2432) hx hb d_Mo_putGate_18 (by decide) ?_
  refine lv_iload_n hx hb d_Mo_putGate_21 rfl (lv_at hl 1 rfl) ?_
  refine lv_iadd hx hb d_Mo_putGate_22 ?_
  refine lv_aload_n hx hb d_Mo_putGate_23 rfl (lv_at hl 0 rfl) ?_
  refine gt hC hB _ lkM_o rfl i_Mo 1 (by decide) rfl kw_892 rfl d_Mo_putGate_24 ?_
  refine lv_bipush (v := 6) hx hb d_Mo_putGate_27 (by decide) ?_
  refine va_lald hx hb hC.2.2.2.2.2.2.2.1.1 hB.1 _ 1 (lkM_l (by decide : 0 < 4)) rfl (of_eq_true (andL hk)) d_Mo_putGate_29 ?_
  replace hk := andR hk
  refine as_l rfl hC hB _ 1 (lkM_l (by decide : 0 < 4)) rfl (of_eq_true (andL hk)) d_Mo_putGate_30 (ws' := wsM G cI cL (wL (wL τ 0 ((2192 + x0).toNatClampNeg) (x1.toInt64 + 1)) 0 ((2432 + x0).toNatClampNeg) (yL (wL τ 0 ((2192 + x0).toNatClampNeg) (x1.toInt64 + 1)) 0 (6 : Int32).toNatClampNeg)) rest) (setM_l (by decide : 0 < 4) _ _) (fun H locs hB => ?_)
  replace hk := andR hk
  refine lv_aload_n hx hb d_Mo_putGate_31 rfl (lv_at hl 0 rfl) ?_
  refine gt hC hB _ lkM_o rfl i_Mo 1 (by decide) rfl kw_892 rfl d_Mo_putGate_32 ?_
  refine lv_bipush (v := 6) hx hb d_Mo_putGate_35 (by decide) ?_
  refine lv_dup2_11 hx hb d_Mo_putGate_37 rfl rfl ?_
  refine va_lald hx hb hC.2.2.2.2.2.2.2.1.1 hB.1 _ 1 (lkM_l (by decide : 0 < 4)) rfl (of_eq_true (andL hk)) d_Mo_putGate_38 ?_
  replace hk := andR hk
  refine lv_lconst (v := 1) hx hb d_Mo_putGate_39 (by decide) ?_
  refine lv_ladd hx hb d_Mo_putGate_40 ?_
  refine as_l rfl hC hB _ 1 (lkM_l (by decide : 0 < 4)) rfl (of_eq_true (andL hk)) d_Mo_putGate_41 (ws' := wsM G cI cL (wL (wL (wL τ 0 ((2192 + x0).toNatClampNeg) (x1.toInt64 + 1)) 0 ((2432 + x0).toNatClampNeg) (yL (wL τ 0 ((2192 + x0).toNatClampNeg) (x1.toInt64 + 1)) 0 (6 : Int32).toNatClampNeg)) 0 ((6 : Int32).toNatClampNeg) ((yL (wL (wL τ 0 ((2192 + x0).toNatClampNeg) (x1.toInt64 + 1)) 0 ((2432 + x0).toNatClampNeg) (yL (wL τ 0 ((2192 + x0).toNatClampNeg) (x1.toInt64 + 1)) 0 (6 : Int32).toNatClampNeg)) 0 (6 : Int32).toNatClampNeg) + 1)) rest) (setM_l (by decide : 0 < 4) _ _) (fun H locs hB => ?_)
  replace hk := andR hk
  subst hR
  exact rv hC hB rfl d_Mo_putGate_42

set_option maxHeartbeats 400000 in
set_option maxRecDepth 100000 in
theorem c_Mo_gate  (τ : SM)  (x0 : Int32) (x1 : Int32) (x2 : Int32) (hk : (k_Mo_gate τ x0 x1 x2) = True) : CM l y_Mo_gate b_Mo_gate 4 (some .boolean) { frames := 3, cells := 0, slots := 0, locals := 64 } D (tyL cI cL cQ) N0 N0 [.ref (G 4 0), .int x0, .int x1, .int x2] (wsM G cI cL τ rest) (some (.int (bi ((m_Mo_gate τ x0 x1 x2).1)))) (fun w => w = wsM G cI cL ((m_Mo_gate τ x0 x1 x2).2) rest) 0 0 := by
  generalize hR : m_Mo_gate τ x0 x1 x2 = RES
  obtain ⟨RV, RS⟩ := RES
  dsimp only
  refine met_of (own := R_Mo) (by decide) rfl nwl_ok ?_
  intro p e s m below meth c hC hin hB
  have hx := hC.1
  have hb := hC.2.1
  have hl := lv_entry ([.ref (G 4 0), .int x0, .int x1, .int x2]) (n := 4) (Nat.le_of_ble_eq_true rfl)
  rw [lg_entry_eq]
  generalize (lg_sl ([.ref (G 4 0), .int x0, .int x1, .int x2]) ++ List.replicate (4 - (lg_sl ([.ref (G 4 0), .int x0, .int x1, .int x2])).length) Slot.unset).toArray = ls at hl ⊢
  have hl : lv_has ls 4 [(0, .ref (G 4 0)), (1, .int x0), (2, .int x1), (3, .int x2)] := hl
  rw [m_Mo_gate] at hR
  rw [k_Mo_gate] at hk
  refine lv_aload_n hx hb d_Mo_gate_0 rfl (lv_at hl 0 rfl) ?_
  refine lv_aload_n hx hb d_Mo_gate_1 rfl (lv_at hl 0 rfl) ?_
  refine lv_iload_n hx hb d_Mo_gate_2 rfl (lv_at hl 1 rfl) ?_
  refine kV hC hB _ lkM_o rfl (c_Mo_isSheet τ  x0 (andL hk)) allw_ok mf_Mo_isSheet kw_979 ks_32 kw_977 ⟨rfl, rfl, Nat.le_of_ble_eq_true rfl, Nat.le_of_ble_eq_true rfl⟩ rfl rfl hl.1 (Nat.le_of_ble_eq_true rfl) d_Mo_gate_3 ⟨Nat.le_of_ble_eq_true rfl, Nat.le_of_ble_eq_true rfl⟩ (roK fun H locs hB => ?_)
  replace hk := andR hk
  refine lv_if_eq (tgt := 22) hx hb d_Mo_gate_6 (by decide) (fun c_1 => ?_) (fun c_1 => ?_)
  · rw [if_pos c_1] at hR hk
    refine lv_iconst (v := 1) hx hb d_Mo_gate_22 (by decide) ?_
    refine pt (ty := .int) rfl hC hB _ lkM_o rfl i_Mo t_Mo t_Mo_ok n_Mo 0 (by decide) rfl rfl kw_891 (by decide +kernel) rfl rfl (Nat.le_of_ble_eq_true rfl) d_Mo_gate_23 (ws' := wsM G cI cL (wn τ 0 1) rest) setM_n0 (fun H locs hB => ?_)
    refine lv_aload_n hx hb d_Mo_gate_26 rfl (lv_at hl 0 rfl) ?_
    refine gt (v := .int 1) hC hB _ lkM_o rfl i_Mo 0 (by decide) rfl kw_891 rfl d_Mo_gate_27 ?_
    refine lv_if_ne (tgt := 63) hx hb d_Mo_gate_30 (by decide) (fun c_2 => ?_) (fun c_2 => absurd c_2 (by decide))
    refine lv_iconst (v := 0) hx hb d_Mo_gate_63 (by decide) ?_
    obtain ⟨rfl, rfl⟩ := Prod.mk.inj hR
    exact rz (b := false) hC hB rfl d_Mo_gate_64
  · rw [if_neg c_1] at hR hk
    refine lv_aload_n hx hb d_Mo_gate_9 rfl (lv_at hl 0 rfl) ?_
    refine lv_iload_n hx hb d_Mo_gate_10 rfl (lv_at hl 2 rfl) ?_
    refine lv_iload_n hx hb d_Mo_gate_11 rfl (lv_at hl 3 rfl) ?_
    refine kV hC hB _ lkM_o rfl (c_Mo_isGate τ  x1 x2 (andL hk)) allw_ok mf_Mo_isGate kw_1059 ks_43 kw_1057 ⟨rfl, rfl, Nat.le_of_ble_eq_true rfl, Nat.le_of_ble_eq_true rfl⟩ rfl rfl hl.1 (Nat.le_of_ble_eq_true rfl) d_Mo_gate_12 ⟨Nat.le_of_ble_eq_true rfl, Nat.le_of_ble_eq_true rfl⟩ (roK fun H locs hB => ?_)
    replace hk := andR hk
    refine lv_if_eq (tgt := 22) hx hb d_Mo_gate_15 (by decide) (fun c_3 => ?_) (fun c_3 => ?_)
    · rw [if_pos c_3] at hR hk
      refine lv_iconst (v := 1) hx hb d_Mo_gate_22 (by decide) ?_
      refine pt (ty := .int) rfl hC hB _ lkM_o rfl i_Mo t_Mo t_Mo_ok n_Mo 0 (by decide) rfl rfl kw_891 (by decide +kernel) rfl rfl (Nat.le_of_ble_eq_true rfl) d_Mo_gate_23 (ws' := wsM G cI cL (wn τ 0 1) rest) setM_n0 (fun H locs hB => ?_)
      refine lv_aload_n hx hb d_Mo_gate_26 rfl (lv_at hl 0 rfl) ?_
      refine gt (v := .int 1) hC hB _ lkM_o rfl i_Mo 0 (by decide) rfl kw_891 rfl d_Mo_gate_27 ?_
      refine lv_if_ne (tgt := 63) hx hb d_Mo_gate_30 (by decide) (fun c_4 => ?_) (fun c_4 => absurd c_4 (by decide))
      refine lv_iconst (v := 0) hx hb d_Mo_gate_63 (by decide) ?_
      obtain ⟨rfl, rfl⟩ := Prod.mk.inj hR
      exact rz (b := false) hC hB rfl d_Mo_gate_64
    · rw [if_neg c_3] at hR hk
      refine lv_iconst (v := 0) hx hb d_Mo_gate_18 (by decide) ?_
      refine lv_goto (tgt := 23) hx hb d_Mo_gate_19 (by decide) ?_
      refine pt (ty := .int) rfl hC hB _ lkM_o rfl i_Mo t_Mo t_Mo_ok n_Mo 0 (by decide) rfl rfl kw_891 (by decide +kernel) rfl rfl (Nat.le_of_ble_eq_true rfl) d_Mo_gate_23 (ws' := wsM G cI cL (wn τ 0 0) rest) setM_n0 (fun H locs hB => ?_)
      refine lv_aload_n hx hb d_Mo_gate_26 rfl (lv_at hl 0 rfl) ?_
      refine gt (v := .int 0) hC hB _ lkM_o rfl i_Mo 0 (by decide) rfl kw_891 rfl d_Mo_gate_27 ?_
      refine lv_if_ne (tgt := 63) hx hb d_Mo_gate_30 (by decide) (fun c_5 => absurd c_5 (by decide)) (fun c_5 => ?_)
      refine lv_aload_n hx hb d_Mo_gate_33 rfl (lv_at hl 0 rfl) ?_
      refine gt hC hB _ lkM_o rfl i_Mo 1 (by decide) rfl kw_892 rfl d_Mo_gate_34 ?_
      refine lv_sipush (v := 2192) hx hb d_Mo_gate_37 (by decide) ?_
      refine lv_bipush (v := 8) hx hb d_Mo_gate_40 (by decide) ?_
      refine lv_iload_n hx hb d_Mo_gate_42 rfl (lv_at hl 2 rfl) ?_
      refine lv_imul hx hb d_Mo_gate_43 ?_
      refine lv_iadd hx hb d_Mo_gate_44 ?_
      refine lv_iload_n hx hb d_Mo_gate_45 rfl (lv_at hl 3 rfl) ?_
      refine lv_iadd hx hb d_Mo_gate_46 ?_
      refine va_lald hx hb hC.2.2.2.2.2.2.2.1.1 hB.1 _ 1 (lkM_l (by decide : 0 < 4)) rfl (of_eq_true (andL hk)) d_Mo_gate_47 ?_
      replace hk := andR hk
      refine lv_lconst (v := 0) hx hb d_Mo_gate_48 (by decide) ?_
      refine W.lcmp hx hb d_Mo_gate_49 ?_
      refine lv_if_ne (tgt := 63) hx hb d_Mo_gate_50 (by decide) (fun c_6 => ?_) (fun c_6 => ?_)
      · rw [if_neg c_6] at hR hk
        refine lv_iconst (v := 0) hx hb d_Mo_gate_63 (by decide) ?_
        obtain ⟨rfl, rfl⟩ := Prod.mk.inj hR
        exact rz (b := false) hC hB rfl d_Mo_gate_64
      · rw [if_pos c_6] at hR hk
        refine lv_aload_n hx hb d_Mo_gate_53 rfl (lv_at hl 0 rfl) ?_
        refine lv_iload_n hx hb d_Mo_gate_54 rfl (lv_at hl 1 rfl) ?_
        refine kV hC hB _ lkM_o rfl (c_Mo_gatesOn (wn τ 0 0)  x0 (andL hk)) allw_ok mf_Mo_gatesOn kw_1067 ks_45 kw_1065 ⟨rfl, rfl, Nat.le_of_ble_eq_true rfl, Nat.le_of_ble_eq_true rfl⟩ rfl rfl hl.1 (Nat.le_of_ble_eq_true rfl) d_Mo_gate_55 ⟨Nat.le_of_ble_eq_true rfl, Nat.le_of_ble_eq_true rfl⟩ (roK fun H locs hB => ?_)
        replace hk := andR hk
        refine lv_bipush (v := 20) hx hb d_Mo_gate_58 (by decide) ?_
        refine lv_icmp_ne (tgt := 65) hx hb d_Mo_gate_60 (by decide) (fun c_7 => ?_) (fun c_7 => ?_)
        · rw [if_neg c_7] at hR hk
          refine lv_aload_n hx hb d_Mo_gate_65 rfl (lv_at hl 0 rfl) ?_
          refine kV hC hB _ lkM_o rfl (c_Mo_begin (wn τ 0 0)  (andL hk)) allw_ok mf_Mo_begin kw_967 ks_30 kw_965 ⟨rfl, rfl, Nat.le_of_ble_eq_true rfl, Nat.le_of_ble_eq_true rfl⟩ rfl rfl hl.1 (Nat.le_of_ble_eq_true rfl) d_Mo_gate_66 ⟨Nat.le_of_ble_eq_true rfl, Nat.le_of_ble_eq_true rfl⟩ (roK fun H locs hB => ?_)
          replace hk := andR hk
          refine lv_aload_n hx hb d_Mo_gate_69 rfl (lv_at hl 0 rfl) ?_
          refine lv_bipush (v := 8) hx hb d_Mo_gate_70 (by decide) ?_
          refine lv_iload_n hx hb d_Mo_gate_72 rfl (lv_at hl 2 rfl) ?_
          refine lv_imul hx hb d_Mo_gate_73 ?_
          refine lv_iload_n hx hb d_Mo_gate_74 rfl (lv_at hl 3 rfl) ?_
          refine lv_iadd hx hb d_Mo_gate_75 ?_
          refine lv_iload_n hx hb d_Mo_gate_76 rfl (lv_at hl 1 rfl) ?_
          refine kV hC hB _ lkM_o rfl (c_Mo_putGate (m_Mo_begin (wn τ 0 0))  ((8 * x1) + x2) x0 (andL hk)) allw_ok mf_Mo_putGate kw_1071 ks_46 kw_1069 ⟨rfl, rfl, Nat.le_of_ble_eq_true rfl, Nat.le_of_ble_eq_true rfl⟩ rfl rfl hl.1 (Nat.le_of_ble_eq_true rfl) d_Mo_gate_77 ⟨Nat.le_of_ble_eq_true rfl, Nat.le_of_ble_eq_true rfl⟩ (roK fun H locs hB => ?_)
          replace hk := andR hk
          refine lv_aload_n hx hb d_Mo_gate_80 rfl (lv_at hl 0 rfl) ?_
          refine kV hC hB _ lkM_o rfl (c_Mo_done (m_Mo_putGate (m_Mo_begin (wn τ 0 0)) ((8 * x1) + x2) x0)  (andL hk)) allw_ok mf_Mo_done kw_971 ks_31 kw_969 ⟨rfl, rfl, Nat.le_of_ble_eq_true rfl, Nat.le_of_ble_eq_true rfl⟩ rfl rfl hl.1 (Nat.le_of_ble_eq_true rfl) d_Mo_gate_81 ⟨Nat.le_of_ble_eq_true rfl, Nat.le_of_ble_eq_true rfl⟩ (roK fun H locs hB => ?_)
          replace hk := andR hk
          refine lv_iconst (v := 1) hx hb d_Mo_gate_84 (by decide) ?_
          obtain ⟨rfl, rfl⟩ := Prod.mk.inj hR
          exact rz (b := true) hC hB rfl d_Mo_gate_85
        · rw [if_pos c_7] at hR hk
          refine lv_iconst (v := 0) hx hb d_Mo_gate_63 (by decide) ?_
          obtain ⟨rfl, rfl⟩ := Prod.mk.inj hR
          exact rz (b := false) hC hB rfl d_Mo_gate_64
end SMW
