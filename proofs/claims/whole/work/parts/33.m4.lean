def lp_Mo_find_93 (K : SM → Int32 → Int32 → Int32 → Int32 → Int32 → Int32) : Nat → SM → Int32 → Int32 → Int32 → Int32 → Int32 → Int32 → Int32 → Int32 → Int32
  | 0, τ, _, _, _, _, _, _, _, _ => 0
  | n + 1, τ, v1, v2, v3, v4, v5, v6, v7, v8 =>
    if v4 ≤ v8 then
      if v7 = 0 then
        K τ v1 v2 v3 v4 (v5 + 1)
      else
        v6
    else
      if v7 = 0 then
        if v7 = 0 then
          K τ v1 v2 v3 v4 (v5 + 1)
        else
          v6
      else
        if (lg_cmp (yL τ 0 ((v6 + 5) + v8).toNatClampNeg) ((yI τ 4 v8.toNatClampNeg).toInt64)) = 0 then
          lp_Mo_find_93 K n τ v1 v2 v3 v4 v5 v6 1 (v8 + 1)
        else
          lp_Mo_find_93 K n τ v1 v2 v3 v4 v5 v6 0 (v8 + 1)
def kl_Mo_find_93 (KP : SM → Int32 → Int32 → Int32 → Int32 → Int32 → Prop) : Nat → SM → Int32 → Int32 → Int32 → Int32 → Int32 → Int32 → Int32 → Int32 → Prop
  | 0, _, _, _, _, _, _, _, _, _ => True
  | n + 1, τ, v1, v2, v3, v4, v5, v6, v7, v8 =>
    if v4 ≤ v8 then
      if v7 = 0 then
        KP τ v1 v2 v3 v4 (v5 + 1)
      else
        True
    else
      if v7 = 0 then
        if v7 = 0 then
          KP τ v1 v2 v3 v4 (v5 + 1)
        else
          True
      else
        (vp_in ((v6 + 5) + v8) (lnML 0)) ∧
        (vp_in v8 (lnMI 4)) ∧
        if (lg_cmp (yL τ 0 ((v6 + 5) + v8).toNatClampNeg) ((yI τ 4 v8.toNatClampNeg).toInt64)) = 0 then
          kl_Mo_find_93 KP n τ v1 v2 v3 v4 v5 v6 1 (v8 + 1)
        else
          kl_Mo_find_93 KP n τ v1 v2 v3 v4 v5 v6 0 (v8 + 1)

def lp_Mo_find_3 : Nat → SM → Int32 → Int32 → Int32 → Int32 → Int32 → Int32
  | 0, τ, _, _, _, _, _ => 0
  | n + 1, τ, v1, v2, v3, v4, v5 =>
    if (m_Mo_count τ 4) ≤ v5 then
      (-1)
    else
      if (lg_cmp (yL τ 0 (2682 + (29 * v5)).toNatClampNeg) v1.toInt64) = 0 then
        if (lg_cmp (yL τ 0 ((2682 + (29 * v5)) + 1).toNatClampNeg) v2.toInt64) = 0 then
          if (lg_cmp (yL τ 0 ((2682 + (29 * v5)) + 2).toNatClampNeg) v3.toInt64) = 0 then
            if (lg_cmp (yL τ 0 ((2682 + (29 * v5)) + 4).toNatClampNeg) v4.toInt64) = 0 then
              lp_Mo_find_93 (lp_Mo_find_3 n) (v4.toNatClampNeg + 1) τ v1 v2 v3 v4 v5 (2682 + (29 * v5)) 1 0
            else
              lp_Mo_find_93 (lp_Mo_find_3 n) (v4.toNatClampNeg + 1) τ v1 v2 v3 v4 v5 (2682 + (29 * v5)) 0 0
          else
            lp_Mo_find_93 (lp_Mo_find_3 n) (v4.toNatClampNeg + 1) τ v1 v2 v3 v4 v5 (2682 + (29 * v5)) 0 0
        else
          lp_Mo_find_93 (lp_Mo_find_3 n) (v4.toNatClampNeg + 1) τ v1 v2 v3 v4 v5 (2682 + (29 * v5)) 0 0
      else
        lp_Mo_find_93 (lp_Mo_find_3 n) (v4.toNatClampNeg + 1) τ v1 v2 v3 v4 v5 (2682 + (29 * v5)) 0 0
def kl_Mo_find_3 : Nat → SM → Int32 → Int32 → Int32 → Int32 → Int32 → Prop
  | 0, _, _, _, _, _, _ => True
  | n + 1, τ, v1, v2, v3, v4, v5 =>
    (k_Mo_count τ 4) ∧
    if (m_Mo_count τ 4) ≤ v5 then
      True
    else
      (vp_in (2682 + (29 * v5)) (lnML 0)) ∧
      if (lg_cmp (yL τ 0 (2682 + (29 * v5)).toNatClampNeg) v1.toInt64) = 0 then
        (vp_in ((2682 + (29 * v5)) + 1) (lnML 0)) ∧
        if (lg_cmp (yL τ 0 ((2682 + (29 * v5)) + 1).toNatClampNeg) v2.toInt64) = 0 then
          (vp_in ((2682 + (29 * v5)) + 2) (lnML 0)) ∧
          if (lg_cmp (yL τ 0 ((2682 + (29 * v5)) + 2).toNatClampNeg) v3.toInt64) = 0 then
            (vp_in ((2682 + (29 * v5)) + 4) (lnML 0)) ∧
            if (lg_cmp (yL τ 0 ((2682 + (29 * v5)) + 4).toNatClampNeg) v4.toInt64) = 0 then
              kl_Mo_find_93 (kl_Mo_find_3 n) (v4.toNatClampNeg + 1) τ v1 v2 v3 v4 v5 (2682 + (29 * v5)) 1 0
            else
              kl_Mo_find_93 (kl_Mo_find_3 n) (v4.toNatClampNeg + 1) τ v1 v2 v3 v4 v5 (2682 + (29 * v5)) 0 0
          else
            kl_Mo_find_93 (kl_Mo_find_3 n) (v4.toNatClampNeg + 1) τ v1 v2 v3 v4 v5 (2682 + (29 * v5)) 0 0
        else
          kl_Mo_find_93 (kl_Mo_find_3 n) (v4.toNatClampNeg + 1) τ v1 v2 v3 v4 v5 (2682 + (29 * v5)) 0 0
      else
        kl_Mo_find_93 (kl_Mo_find_3 n) (v4.toNatClampNeg + 1) τ v1 v2 v3 v4 v5 (2682 + (29 * v5)) 0 0

def m_Mo_find (τ : SM) (x0 : Int32) (x1 : Int32) (x2 : Int32) (x3 : Int32) : Int32 :=
  lp_Mo_find_3 ((m_Mo_count τ 4).toNatClampNeg + 1) τ x0 x1 x2 x3 0

def k_Mo_find (τ : SM) (x0 : Int32) (x1 : Int32) (x2 : Int32) (x3 : Int32) : Prop :=
  kl_Mo_find_3 ((m_Mo_count τ 4).toNatClampNeg + 1) τ x0 x1 x2 x3 0

def lp_Mo_tell_168 : Nat → SM → Int32 → Int32 → Int32 → Int32 → Int64 → Int32 → Int32 → Int32 → Bool × SM
  | 0, τ, _, _, _, _, _, _, _, _ => (false, τ)
  | n + 1, τ, v1, v2, v3, v4, v5, v7, v8, v9 =>
    if v7 ≤ v9 then
      (true, (m_Mo_done (wL (wL τ 0 ((4 : Int32).toNatClampNeg) ((yL τ 0 (4 : Int32).toNatClampNeg) + 1)) 0 ((v8 + 3).toNatClampNeg) v5)))
    else
      lp_Mo_tell_168 n (wL τ 0 (((v8 + 5) + v9).toNatClampNeg) ((yI τ 4 v9.toNatClampNeg).toInt64)) v1 v2 v3 v4 v5 v7 v8 (v9 + 1)
def kl_Mo_tell_168 : Nat → SM → Int32 → Int32 → Int32 → Int32 → Int64 → Int32 → Int32 → Int32 → Prop
  | 0, _, _, _, _, _, _, _, _, _ => True
  | n + 1, τ, v1, v2, v3, v4, v5, v7, v8, v9 =>
    if v7 ≤ v9 then
      (vp_in 4 (lnML 0)) ∧
      (vp_in 4 (lnML 0)) ∧
      (vp_in (v8 + 3) (lnML 0)) ∧
      (k_Mo_done (wL (wL τ 0 ((4 : Int32).toNatClampNeg) ((yL τ 0 (4 : Int32).toNatClampNeg) + 1)) 0 ((v8 + 3).toNatClampNeg) v5)) ∧
      True
    else
      (vp_in v9 (lnMI 4)) ∧
      (vp_in ((v8 + 5) + v9) (lnML 0)) ∧
      kl_Mo_tell_168 n (wL τ 0 (((v8 + 5) + v9).toNatClampNeg) ((yI τ 4 v9.toNatClampNeg).toInt64)) v1 v2 v3 v4 v5 v7 v8 (v9 + 1)

def m_Mo_tell (τ : SM) (x0 : Int32) (x1 : Int32) (x2 : Int32) (x3 : Int32) (x4 : Int64) : Bool × SM :=
  if (bi (m_Mo_isVariant τ x0)) = 0 then
    (false, (wn τ 0 1))
  else
    if (bi ((m_Mo_isPage τ x1).1)) = 0 then
      (false, (wn ((m_Mo_isPage τ x1).2) 0 1))
    else
      if (bi (m_Mo_isPart ((m_Mo_isPage τ x1).2) x2)) = 0 then
        (false, (wn ((m_Mo_isPage τ x1).2) 0 1))
      else
        if (m_Mo_find ((m_Mo_pathOf (wn ((m_Mo_isPage τ x1).2) 0 0) x1).2) x0 x2 x3 ((m_Mo_pathOf (wn ((m_Mo_isPage τ x1).2) 0 0) x1).1)) = (-1) then
          if (m_Mo_count ((m_Mo_pathOf (wn ((m_Mo_isPage τ x1).2) 0 0) x1).2) 4) = 40 then
            (false, (m_Mo_pathOf (wn ((m_Mo_isPage τ x1).2) 0 0) x1).2)
          else
            if (m_Mo_find ((m_Mo_pathOf (wn ((m_Mo_isPage τ x1).2) 0 0) x1).2) x0 x2 x3 ((m_Mo_pathOf (wn ((m_Mo_isPage τ x1).2) 0 0) x1).1)) = (-1) then
              lp_Mo_tell_168 (((m_Mo_pathOf (wn ((m_Mo_isPage τ x1).2) 0 0) x1).1).toNatClampNeg + 1) (wL (wL (wL (wL (m_Mo_begin ((m_Mo_pathOf (wn ((m_Mo_isPage τ x1).2) 0 0) x1).2)) 0 ((2682 + (29 * (m_Mo_count (m_Mo_begin ((m_Mo_pathOf (wn ((m_Mo_isPage τ x1).2) 0 0) x1).2)) 4))).toNatClampNeg) x0.toInt64) 0 (((2682 + (29 * (m_Mo_count (m_Mo_begin ((m_Mo_pathOf (wn ((m_Mo_isPage τ x1).2) 0 0) x1).2)) 4))) + 1).toNatClampNeg) x2.toInt64) 0 (((2682 + (29 * (m_Mo_count (m_Mo_begin ((m_Mo_pathOf (wn ((m_Mo_isPage τ x1).2) 0 0) x1).2)) 4))) + 2).toNatClampNeg) x3.toInt64) 0 (((2682 + (29 * (m_Mo_count (m_Mo_begin ((m_Mo_pathOf (wn ((m_Mo_isPage τ x1).2) 0 0) x1).2)) 4))) + 4).toNatClampNeg) (((m_Mo_pathOf (wn ((m_Mo_isPage τ x1).2) 0 0) x1).1).toInt64)) x0 x1 x2 x3 x4 ((m_Mo_pathOf (wn ((m_Mo_isPage τ x1).2) 0 0) x1).1) (2682 + (29 * (m_Mo_count (m_Mo_begin ((m_Mo_pathOf (wn ((m_Mo_isPage τ x1).2) 0 0) x1).2)) 4))) 0
            else
              (true, (m_Mo_done (wL (m_Mo_begin ((m_Mo_pathOf (wn ((m_Mo_isPage τ x1).2) 0 0) x1).2)) 0 (((m_Mo_find ((m_Mo_pathOf (wn ((m_Mo_isPage τ x1).2) 0 0) x1).2) x0 x2 x3 ((m_Mo_pathOf (wn ((m_Mo_isPage τ x1).2) 0 0) x1).1)) + 3).toNatClampNeg) x4)))
        else
          if (lg_cmp (yL ((m_Mo_pathOf (wn ((m_Mo_isPage τ x1).2) 0 0) x1).2) 0 ((m_Mo_find ((m_Mo_pathOf (wn ((m_Mo_isPage τ x1).2) 0 0) x1).2) x0 x2 x3 ((m_Mo_pathOf (wn ((m_Mo_isPage τ x1).2) 0 0) x1).1)) + 3).toNatClampNeg) x4) = 0 then
            (false, (m_Mo_pathOf (wn ((m_Mo_isPage τ x1).2) 0 0) x1).2)
          else
            if (m_Mo_find ((m_Mo_pathOf (wn ((m_Mo_isPage τ x1).2) 0 0) x1).2) x0 x2 x3 ((m_Mo_pathOf (wn ((m_Mo_isPage τ x1).2) 0 0) x1).1)) = (-1) then
              lp_Mo_tell_168 (((m_Mo_pathOf (wn ((m_Mo_isPage τ x1).2) 0 0) x1).1).toNatClampNeg + 1) (wL (wL (wL (wL (m_Mo_begin ((m_Mo_pathOf (wn ((m_Mo_isPage τ x1).2) 0 0) x1).2)) 0 ((2682 + (29 * (m_Mo_count (m_Mo_begin ((m_Mo_pathOf (wn ((m_Mo_isPage τ x1).2) 0 0) x1).2)) 4))).toNatClampNeg) x0.toInt64) 0 (((2682 + (29 * (m_Mo_count (m_Mo_begin ((m_Mo_pathOf (wn ((m_Mo_isPage τ x1).2) 0 0) x1).2)) 4))) + 1).toNatClampNeg) x2.toInt64) 0 (((2682 + (29 * (m_Mo_count (m_Mo_begin ((m_Mo_pathOf (wn ((m_Mo_isPage τ x1).2) 0 0) x1).2)) 4))) + 2).toNatClampNeg) x3.toInt64) 0 (((2682 + (29 * (m_Mo_count (m_Mo_begin ((m_Mo_pathOf (wn ((m_Mo_isPage τ x1).2) 0 0) x1).2)) 4))) + 4).toNatClampNeg) (((m_Mo_pathOf (wn ((m_Mo_isPage τ x1).2) 0 0) x1).1).toInt64)) x0 x1 x2 x3 x4 ((m_Mo_pathOf (wn ((m_Mo_isPage τ x1).2) 0 0) x1).1) (2682 + (29 * (m_Mo_count (m_Mo_begin ((m_Mo_pathOf (wn ((m_Mo_isPage τ x1).2) 0 0) x1).2)) 4))) 0
            else
              (true, (m_Mo_done (wL (m_Mo_begin ((m_Mo_pathOf (wn ((m_Mo_isPage τ x1).2) 0 0) x1).2)) 0 (((m_Mo_find ((m_Mo_pathOf (wn ((m_Mo_isPage τ x1).2) 0 0) x1).2) x0 x2 x3 ((m_Mo_pathOf (wn ((m_Mo_isPage τ x1).2) 0 0) x1).1)) + 3).toNatClampNeg) x4)))

def k_Mo_tell (τ : SM) (x0 : Int32) (x1 : Int32) (x2 : Int32) (x3 : Int32) (x4 : Int64) : Prop :=
  (k_Mo_isVariant τ x0) ∧
  if (bi (m_Mo_isVariant τ x0)) = 0 then
    True
  else
    (k_Mo_isPage τ x1) ∧
    if (bi ((m_Mo_isPage τ x1).1)) = 0 then
      True
    else
      (k_Mo_isPart ((m_Mo_isPage τ x1).2) x2) ∧
      if (bi (m_Mo_isPart ((m_Mo_isPage τ x1).2) x2)) = 0 then
        True
      else
        (k_Mo_pathOf (wn ((m_Mo_isPage τ x1).2) 0 0) x1) ∧
        (k_Mo_find ((m_Mo_pathOf (wn ((m_Mo_isPage τ x1).2) 0 0) x1).2) x0 x2 x3 ((m_Mo_pathOf (wn ((m_Mo_isPage τ x1).2) 0 0) x1).1)) ∧
        if (m_Mo_find ((m_Mo_pathOf (wn ((m_Mo_isPage τ x1).2) 0 0) x1).2) x0 x2 x3 ((m_Mo_pathOf (wn ((m_Mo_isPage τ x1).2) 0 0) x1).1)) = (-1) then
          (k_Mo_count ((m_Mo_pathOf (wn ((m_Mo_isPage τ x1).2) 0 0) x1).2) 4) ∧
          if (m_Mo_count ((m_Mo_pathOf (wn ((m_Mo_isPage τ x1).2) 0 0) x1).2) 4) = 40 then
            True
          else
            (k_Mo_begin ((m_Mo_pathOf (wn ((m_Mo_isPage τ x1).2) 0 0) x1).2)) ∧
            if (m_Mo_find ((m_Mo_pathOf (wn ((m_Mo_isPage τ x1).2) 0 0) x1).2) x0 x2 x3 ((m_Mo_pathOf (wn ((m_Mo_isPage τ x1).2) 0 0) x1).1)) = (-1) then
              (k_Mo_count (m_Mo_begin ((m_Mo_pathOf (wn ((m_Mo_isPage τ x1).2) 0 0) x1).2)) 4) ∧
              (vp_in (2682 + (29 * (m_Mo_count (m_Mo_begin ((m_Mo_pathOf (wn ((m_Mo_isPage τ x1).2) 0 0) x1).2)) 4))) (lnML 0)) ∧
              (vp_in ((2682 + (29 * (m_Mo_count (m_Mo_begin ((m_Mo_pathOf (wn ((m_Mo_isPage τ x1).2) 0 0) x1).2)) 4))) + 1) (lnML 0)) ∧
              (vp_in ((2682 + (29 * (m_Mo_count (m_Mo_begin ((m_Mo_pathOf (wn ((m_Mo_isPage τ x1).2) 0 0) x1).2)) 4))) + 2) (lnML 0)) ∧
              (vp_in ((2682 + (29 * (m_Mo_count (m_Mo_begin ((m_Mo_pathOf (wn ((m_Mo_isPage τ x1).2) 0 0) x1).2)) 4))) + 4) (lnML 0)) ∧
              kl_Mo_tell_168 (((m_Mo_pathOf (wn ((m_Mo_isPage τ x1).2) 0 0) x1).1).toNatClampNeg + 1) (wL (wL (wL (wL (m_Mo_begin ((m_Mo_pathOf (wn ((m_Mo_isPage τ x1).2) 0 0) x1).2)) 0 ((2682 + (29 * (m_Mo_count (m_Mo_begin ((m_Mo_pathOf (wn ((m_Mo_isPage τ x1).2) 0 0) x1).2)) 4))).toNatClampNeg) x0.toInt64) 0 (((2682 + (29 * (m_Mo_count (m_Mo_begin ((m_Mo_pathOf (wn ((m_Mo_isPage τ x1).2) 0 0) x1).2)) 4))) + 1).toNatClampNeg) x2.toInt64) 0 (((2682 + (29 * (m_Mo_count (m_Mo_begin ((m_Mo_pathOf (wn ((m_Mo_isPage τ x1).2) 0 0) x1).2)) 4))) + 2).toNatClampNeg) x3.toInt64) 0 (((2682 + (29 * (m_Mo_count (m_Mo_begin ((m_Mo_pathOf (wn ((m_Mo_isPage τ x1).2) 0 0) x1).2)) 4))) + 4).toNatClampNeg) (((m_Mo_pathOf (wn ((m_Mo_isPage τ x1).2) 0 0) x1).1).toInt64)) x0 x1 x2 x3 x4 ((m_Mo_pathOf (wn ((m_Mo_isPage τ x1).2) 0 0) x1).1) (2682 + (29 * (m_Mo_count (m_Mo_begin ((m_Mo_pathOf (wn ((m_Mo_isPage τ x1).2) 0 0) x1).2)) 4))) 0
            else
              (vp_in ((m_Mo_find ((m_Mo_pathOf (wn ((m_Mo_isPage τ x1).2) 0 0) x1).2) x0 x2 x3 ((m_Mo_pathOf (wn ((m_Mo_isPage τ x1).2) 0 0) x1).1)) + 3) (lnML 0)) ∧
              (k_Mo_done (wL (m_Mo_begin ((m_Mo_pathOf (wn ((m_Mo_isPage τ x1).2) 0 0) x1).2)) 0 (((m_Mo_find ((m_Mo_pathOf (wn ((m_Mo_isPage τ x1).2) 0 0) x1).2) x0 x2 x3 ((m_Mo_pathOf (wn ((m_Mo_isPage τ x1).2) 0 0) x1).1)) + 3).toNatClampNeg) x4)) ∧
              True
        else
          (vp_in ((m_Mo_find ((m_Mo_pathOf (wn ((m_Mo_isPage τ x1).2) 0 0) x1).2) x0 x2 x3 ((m_Mo_pathOf (wn ((m_Mo_isPage τ x1).2) 0 0) x1).1)) + 3) (lnML 0)) ∧
          if (lg_cmp (yL ((m_Mo_pathOf (wn ((m_Mo_isPage τ x1).2) 0 0) x1).2) 0 ((m_Mo_find ((m_Mo_pathOf (wn ((m_Mo_isPage τ x1).2) 0 0) x1).2) x0 x2 x3 ((m_Mo_pathOf (wn ((m_Mo_isPage τ x1).2) 0 0) x1).1)) + 3).toNatClampNeg) x4) = 0 then
            True
          else
            (k_Mo_begin ((m_Mo_pathOf (wn ((m_Mo_isPage τ x1).2) 0 0) x1).2)) ∧
            if (m_Mo_find ((m_Mo_pathOf (wn ((m_Mo_isPage τ x1).2) 0 0) x1).2) x0 x2 x3 ((m_Mo_pathOf (wn ((m_Mo_isPage τ x1).2) 0 0) x1).1)) = (-1) then
              (k_Mo_count (m_Mo_begin ((m_Mo_pathOf (wn ((m_Mo_isPage τ x1).2) 0 0) x1).2)) 4) ∧
              (vp_in (2682 + (29 * (m_Mo_count (m_Mo_begin ((m_Mo_pathOf (wn ((m_Mo_isPage τ x1).2) 0 0) x1).2)) 4))) (lnML 0)) ∧
              (vp_in ((2682 + (29 * (m_Mo_count (m_Mo_begin ((m_Mo_pathOf (wn ((m_Mo_isPage τ x1).2) 0 0) x1).2)) 4))) + 1) (lnML 0)) ∧
              (vp_in ((2682 + (29 * (m_Mo_count (m_Mo_begin ((m_Mo_pathOf (wn ((m_Mo_isPage τ x1).2) 0 0) x1).2)) 4))) + 2) (lnML 0)) ∧
              (vp_in ((2682 + (29 * (m_Mo_count (m_Mo_begin ((m_Mo_pathOf (wn ((m_Mo_isPage τ x1).2) 0 0) x1).2)) 4))) + 4) (lnML 0)) ∧
              kl_Mo_tell_168 (((m_Mo_pathOf (wn ((m_Mo_isPage τ x1).2) 0 0) x1).1).toNatClampNeg + 1) (wL (wL (wL (wL (m_Mo_begin ((m_Mo_pathOf (wn ((m_Mo_isPage τ x1).2) 0 0) x1).2)) 0 ((2682 + (29 * (m_Mo_count (m_Mo_begin ((m_Mo_pathOf (wn ((m_Mo_isPage τ x1).2) 0 0) x1).2)) 4))).toNatClampNeg) x0.toInt64) 0 (((2682 + (29 * (m_Mo_count (m_Mo_begin ((m_Mo_pathOf (wn ((m_Mo_isPage τ x1).2) 0 0) x1).2)) 4))) + 1).toNatClampNeg) x2.toInt64) 0 (((2682 + (29 * (m_Mo_count (m_Mo_begin ((m_Mo_pathOf (wn ((m_Mo_isPage τ x1).2) 0 0) x1).2)) 4))) + 2).toNatClampNeg) x3.toInt64) 0 (((2682 + (29 * (m_Mo_count (m_Mo_begin ((m_Mo_pathOf (wn ((m_Mo_isPage τ x1).2) 0 0) x1).2)) 4))) + 4).toNatClampNeg) (((m_Mo_pathOf (wn ((m_Mo_isPage τ x1).2) 0 0) x1).1).toInt64)) x0 x1 x2 x3 x4 ((m_Mo_pathOf (wn ((m_Mo_isPage τ x1).2) 0 0) x1).1) (2682 + (29 * (m_Mo_count (m_Mo_begin ((m_Mo_pathOf (wn ((m_Mo_isPage τ x1).2) 0 0) x1).2)) 4))) 0
            else
              (vp_in ((m_Mo_find ((m_Mo_pathOf (wn ((m_Mo_isPage τ x1).2) 0 0) x1).2) x0 x2 x3 ((m_Mo_pathOf (wn ((m_Mo_isPage τ x1).2) 0 0) x1).1)) + 3) (lnML 0)) ∧
              (k_Mo_done (wL (m_Mo_begin ((m_Mo_pathOf (wn ((m_Mo_isPage τ x1).2) 0 0) x1).2)) 0 (((m_Mo_find ((m_Mo_pathOf (wn ((m_Mo_isPage τ x1).2) 0 0) x1).2) x0 x2 x3 ((m_Mo_pathOf (wn ((m_Mo_isPage τ x1).2) 0 0) x1).1)) + 3).toNatClampNeg) x4)) ∧
              True

def m_Mo_value (τ : SM) (x0 : Int32) (x1 : Int32) (x2 : Int32) (x3 : Int64) : Bool × SM :=
  ((m_Mo_tell τ x0 x1 x2 0 x3).1, (m_Mo_tell τ x0 x1 x2 0 x3).2)

def k_Mo_value (τ : SM) (x0 : Int32) (x1 : Int32) (x2 : Int32) (x3 : Int64) : Prop :=
  (k_Mo_tell τ x0 x1 x2 0 x3) ∧
  True

def m_Mo_fit (τ : SM) (x0 : Int32) (x1 : Int32) (x2 : Int32) (x3 : Bool) : Bool × SM :=
  if (bi x3) = 0 then
    ((m_Mo_tell τ x0 x1 x2 1 0).1, (m_Mo_tell τ x0 x1 x2 1 0).2)
  else
    ((m_Mo_tell τ x0 x1 x2 1 1).1, (m_Mo_tell τ x0 x1 x2 1 1).2)

def k_Mo_fit (τ : SM) (x0 : Int32) (x1 : Int32) (x2 : Int32) (x3 : Bool) : Prop :=
  if (bi x3) = 0 then
    (k_Mo_tell τ x0 x1 x2 1 0) ∧
    True
  else
    (k_Mo_tell τ x0 x1 x2 1 1) ∧
    True

def lp_Mo_ask_67 (K : SM → Int32 → Int32 → Int32 → Int32 → Int32 → Int64 × SM) : Nat → SM → Int32 → Int32 → Int32 → Int32 → Int32 → Int32 → Int32 → Int64 × SM
  | 0, τ, _, _, _, _, _, _, _ => (0, τ)
  | n + 1, τ, v1, v2, v3, v4, v5, v6, v7 =>
    if v7 < 0 then
      K τ v1 v2 v3 v4 ((yL τ 0 (2672 + v5).toNatClampNeg).toInt32)
    else
      if (m_Mo_find τ v5 v3 v4 v7) = (-1) then
        lp_Mo_ask_67 K n τ v1 v2 v3 v4 v5 v6 (v7 + (-1))
      else
        ((yL τ 0 ((m_Mo_find τ v5 v3 v4 v7) + 3).toNatClampNeg), τ)
def kl_Mo_ask_67 (KP : SM → Int32 → Int32 → Int32 → Int32 → Int32 → Prop) : Nat → SM → Int32 → Int32 → Int32 → Int32 → Int32 → Int32 → Int32 → Prop
  | 0, _, _, _, _, _, _, _, _ => True
  | n + 1, τ, v1, v2, v3, v4, v5, v6, v7 =>
    if v7 < 0 then
      (vp_in (2672 + v5) (lnML 0)) ∧
      KP τ v1 v2 v3 v4 ((yL τ 0 (2672 + v5).toNatClampNeg).toInt32)
    else
      (k_Mo_find τ v5 v3 v4 v7) ∧
      if (m_Mo_find τ v5 v3 v4 v7) = (-1) then
        kl_Mo_ask_67 KP n τ v1 v2 v3 v4 v5 v6 (v7 + (-1))
      else
        (vp_in ((m_Mo_find τ v5 v3 v4 v7) + 3) (lnML 0)) ∧
        True

def lp_Mo_ask_50 : Nat → SM → Int32 → Int32 → Int32 → Int32 → Int32 → Int64 × SM
  | 0, τ, _, _, _, _, _ => (0, τ)
  | n + 1, τ, v1, v2, v3, v4, v5 =>
    if v5 = (-1) then
      (v4.toInt64, τ)
    else
      lp_Mo_ask_67 (lp_Mo_ask_50 n) (((m_Mo_pathOf τ v2).1).toNatClampNeg + 2) ((m_Mo_pathOf τ v2).2) v1 v2 v3 v4 v5 ((m_Mo_pathOf τ v2).1) ((m_Mo_pathOf τ v2).1)
def kl_Mo_ask_50 : Nat → SM → Int32 → Int32 → Int32 → Int32 → Int32 → Prop
  | 0, _, _, _, _, _, _ => False
  | n + 1, τ, v1, v2, v3, v4, v5 =>
    if v5 = (-1) then
      True
    else
      (k_Mo_pathOf τ v2) ∧
      kl_Mo_ask_67 (kl_Mo_ask_50 n) (((m_Mo_pathOf τ v2).1).toNatClampNeg + 2) ((m_Mo_pathOf τ v2).2) v1 v2 v3 v4 v5 ((m_Mo_pathOf τ v2).1) ((m_Mo_pathOf τ v2).1)

def m_Mo_ask (τ : SM) (x0 : Int32) (x1 : Int32) (x2 : Int32) (x3 : Int32) : Int64 × SM :=
  if x0 = (-1) then
    if (bi ((m_Mo_isPage τ x1).1)) = 0 then
      (0, (wn ((m_Mo_isPage τ x1).2) 0 1))
    else
      if (bi (m_Mo_isPart ((m_Mo_isPage τ x1).2) x2)) = 0 then
        (0, (wn ((m_Mo_isPage τ x1).2) 0 1))
      else
        lp_Mo_ask_50 12 (wn ((m_Mo_isPage τ x1).2) 0 0) x0 x1 x2 x3 x0
  else
    if (bi (m_Mo_isVariant τ x0)) = 0 then
      (0, (wn τ 0 1))
    else
      if (bi ((m_Mo_isPage τ x1).1)) = 0 then
        (0, (wn ((m_Mo_isPage τ x1).2) 0 1))
      else
        if (bi (m_Mo_isPart ((m_Mo_isPage τ x1).2) x2)) = 0 then
          (0, (wn ((m_Mo_isPage τ x1).2) 0 1))
        else
          lp_Mo_ask_50 12 (wn ((m_Mo_isPage τ x1).2) 0 0) x0 x1 x2 x3 x0

def k_Mo_ask (τ : SM) (x0 : Int32) (x1 : Int32) (x2 : Int32) (x3 : Int32) : Prop :=
  if x0 = (-1) then
    (k_Mo_isPage τ x1) ∧
    if (bi ((m_Mo_isPage τ x1).1)) = 0 then
      True
    else
      (k_Mo_isPart ((m_Mo_isPage τ x1).2) x2) ∧
      if (bi (m_Mo_isPart ((m_Mo_isPage τ x1).2) x2)) = 0 then
        True
      else
        kl_Mo_ask_50 12 (wn ((m_Mo_isPage τ x1).2) 0 0) x0 x1 x2 x3 x0
  else
    (k_Mo_isVariant τ x0) ∧
    if (bi (m_Mo_isVariant τ x0)) = 0 then
      True
    else
      (k_Mo_isPage τ x1) ∧
      if (bi ((m_Mo_isPage τ x1).1)) = 0 then
        True
      else
        (k_Mo_isPart ((m_Mo_isPage τ x1).2) x2) ∧
        if (bi (m_Mo_isPart ((m_Mo_isPage τ x1).2) x2)) = 0 then
          True
        else
          kl_Mo_ask_50 12 (wn ((m_Mo_isPage τ x1).2) 0 0) x0 x1 x2 x3 x0

def m_Mo_valueOf (τ : SM) (x0 : Int32) (x1 : Int32) (x2 : Int32) : Int64 × SM :=
  ((m_Mo_ask τ x0 x1 x2 0).1, (m_Mo_ask τ x0 x1 x2 0).2)

def k_Mo_valueOf (τ : SM) (x0 : Int32) (x1 : Int32) (x2 : Int32) : Prop :=
  (k_Mo_ask τ x0 x1 x2 0) ∧
  True

def m_Mo_fitted (τ : SM) (x0 : Int32) (x1 : Int32) (x2 : Int32) : Bool × SM :=
  if (lg_cmp ((m_Mo_ask τ x0 x1 x2 1).1) 1) = 0 then
    (true, (m_Mo_ask τ x0 x1 x2 1).2)
  else
    (false, (m_Mo_ask τ x0 x1 x2 1).2)

def k_Mo_fitted (τ : SM) (x0 : Int32) (x1 : Int32) (x2 : Int32) : Prop :=
  (k_Mo_ask τ x0 x1 x2 1) ∧
  if (lg_cmp ((m_Mo_ask τ x0 x1 x2 1).1) 1) = 0 then
    True
  else
    True

def m_Mo_pages (τ : SM) : Int32 × SM :=
  ((yn (m_Mo_look (wn τ 0 0)) 4), (m_Mo_look (wn τ 0 0)))

def k_Mo_pages (τ : SM) : Prop :=
  (k_Mo_look (wn τ 0 0)) ∧
  True

def m_Mo_page (τ : SM) (x0 : Int32) (x1 : Int32) : Int32 × SM :=
  if (bi ((m_Mo_isPage τ x0).1)) = 0 then
    (0, (wn ((m_Mo_isPage τ x0).2) 0 1))
  else
    if x1 < 0 then
      (0, (wn ((m_Mo_isPage τ x0).2) 0 1))
    else
      if 4 ≤ x1 then
        (0, (wn ((m_Mo_isPage τ x0).2) 0 1))
      else
        if x1 = 0 then
          ((yI (wn ((m_Mo_isPage τ x0).2) 0 0) 0 x0.toNatClampNeg), (wn ((m_Mo_isPage τ x0).2) 0 0))
        else
          if x1 = 1 then
            ((yI (wn ((m_Mo_isPage τ x0).2) 0 0) 1 x0.toNatClampNeg), (wn ((m_Mo_isPage τ x0).2) 0 0))
          else
            if x1 = 2 then
              ((yI (wn ((m_Mo_isPage τ x0).2) 0 0) 2 x0.toNatClampNeg), (wn ((m_Mo_isPage τ x0).2) 0 0))
            else
              ((yI (wn ((m_Mo_isPage τ x0).2) 0 0) 3 x0.toNatClampNeg), (wn ((m_Mo_isPage τ x0).2) 0 0))

def k_Mo_page (τ : SM) (x0 : Int32) (x1 : Int32) : Prop :=
  (k_Mo_isPage τ x0) ∧
  if (bi ((m_Mo_isPage τ x0).1)) = 0 then
    True
  else
    if x1 < 0 then
      True
    else
      if 4 ≤ x1 then
        True
      else
        if x1 = 0 then
          (vp_in x0 (lnMI 0)) ∧
          True
        else
          if x1 = 1 then
            (vp_in x0 (lnMI 1)) ∧
            True
          else
            if x1 = 2 then
              (vp_in x0 (lnMI 2)) ∧
              True
            else
              (vp_in x0 (lnMI 3)) ∧
              True

def lp_Mo_pageOf_6 : Nat → SM → Int64 → Int32 → Int32 → Int32 → Int32
  | 0, τ, _, _, _, _ => 0
  | n + 1, τ, v1, v3, v4, v5 =>
    if (yn τ 4) ≤ v5 then
      (-1)
    else
      if (lg_cmp ((yI τ 0 v5.toNatClampNeg).toInt64) v1) = 0 then
        if v4 = 0 then
          v5
        else
          lp_Mo_pageOf_6 n τ v1 v3 (v4 + (-1)) (v5 + 1)
      else
        lp_Mo_pageOf_6 n τ v1 v3 v4 (v5 + 1)
def kl_Mo_pageOf_6 : Nat → SM → Int64 → Int32 → Int32 → Int32 → Prop
  | 0, _, _, _, _, _ => True
  | n + 1, τ, v1, v3, v4, v5 =>
    if (yn τ 4) ≤ v5 then
      True
    else
      (vp_in v5 (lnMI 0)) ∧
      if (lg_cmp ((yI τ 0 v5.toNatClampNeg).toInt64) v1) = 0 then
        if v4 = 0 then
          True
        else
          kl_Mo_pageOf_6 n τ v1 v3 (v4 + (-1)) (v5 + 1)
      else
        kl_Mo_pageOf_6 n τ v1 v3 v4 (v5 + 1)

def m_Mo_pageOf (τ : SM) (x0 : Int64) (x1 : Int32) : Int32 :=
  lp_Mo_pageOf_6 ((yn τ 4).toNatClampNeg + 1) τ x0 x1 x1 0

def k_Mo_pageOf (τ : SM) (x0 : Int64) (x1 : Int32) : Prop :=
  kl_Mo_pageOf_6 ((yn τ 4).toNatClampNeg + 1) τ x0 x1 x1 0

def lp_Mo_unitsOf_30 (K : SM → Int32 → Int32 → Int32 → Int32 × SM) : Nat → SM → Int32 → Int32 → Int32 → Int32 → Int32 → Int32 × SM
  | 0, τ, _, _, _, _, _ => (0, τ)
  | n + 1, τ, v1, v2, v3, v4, v5 =>
    if (yn τ 4) ≤ v5 then
      if v4 ≤ v2 then
        K τ v1 v2 (v3 + 1)
      else
        K τ v1 v4 (v3 + 1)
    else
      if (lg_cmp ((yI τ 0 v5.toNatClampNeg).toInt64) ((yL τ 0 ((2192 + (8 * v1)) + v3).toNatClampNeg) - 1)) = 0 then
        lp_Mo_unitsOf_30 K n τ v1 v2 v3 (v4 + 1) (v5 + 1)
      else
        lp_Mo_unitsOf_30 K n τ v1 v2 v3 (v4 + 0) (v5 + 1)
def kl_Mo_unitsOf_30 (KP : SM → Int32 → Int32 → Int32 → Prop) : Nat → SM → Int32 → Int32 → Int32 → Int32 → Int32 → Prop
  | 0, _, _, _, _, _, _ => True
  | n + 1, τ, v1, v2, v3, v4, v5 =>
    if (yn τ 4) ≤ v5 then
      if v4 ≤ v2 then
        KP τ v1 v2 (v3 + 1)
      else
        KP τ v1 v4 (v3 + 1)
    else
      (vp_in v5 (lnMI 0)) ∧
      (vp_in ((2192 + (8 * v1)) + v3) (lnML 0)) ∧
      if (lg_cmp ((yI τ 0 v5.toNatClampNeg).toInt64) ((yL τ 0 ((2192 + (8 * v1)) + v3).toNatClampNeg) - 1)) = 0 then
        kl_Mo_unitsOf_30 KP n τ v1 v2 v3 (v4 + 1) (v5 + 1)
      else
        kl_Mo_unitsOf_30 KP n τ v1 v2 v3 (v4 + 0) (v5 + 1)

def lp_Mo_unitsOf_8 : Nat → SM → Int32 → Int32 → Int32 → Int32 × SM
  | 0, τ, _, _, _ => (0, τ)
  | n + 1, τ, v1, v2, v3 =>
    if 0 ≤ (lg_cmp v3.toInt64 (yL τ 0 (2162 + v1).toNatClampNeg)) then
      (v2, τ)
    else
      lp_Mo_unitsOf_30 (lp_Mo_unitsOf_8 n) ((yn τ 4).toNatClampNeg + 1) τ v1 v2 v3 0 0
def kl_Mo_unitsOf_8 : Nat → SM → Int32 → Int32 → Int32 → Prop
  | 0, _, _, _, _ => False
  | n + 1, τ, v1, v2, v3 =>
    (vp_in (2162 + v1) (lnML 0)) ∧
    if 0 ≤ (lg_cmp v3.toInt64 (yL τ 0 (2162 + v1).toNatClampNeg)) then
      True
    else
      kl_Mo_unitsOf_30 (kl_Mo_unitsOf_8 n) ((yn τ 4).toNatClampNeg + 1) τ v1 v2 v3 0 0

def m_Mo_unitsOf (τ : SM) (x0 : Int32) : Int32 × SM :=
  lp_Mo_unitsOf_8 10 (m_Mo_look τ) x0 0 0

def k_Mo_unitsOf (τ : SM) (x0 : Int32) : Prop :=
  (k_Mo_look τ) ∧
  kl_Mo_unitsOf_8 10 (m_Mo_look τ) x0 0 0

def m_Mo_units (τ : SM) (x0 : Int32) : Int32 × SM :=
  if (bi (m_Mo_isPart τ x0)) = 0 then
    (0, (wn τ 0 1))
  else
    ((m_Mo_unitsOf (wn τ 0 0) x0).1, (m_Mo_unitsOf (wn τ 0 0) x0).2)

def k_Mo_units (τ : SM) (x0 : Int32) : Prop :=
  (k_Mo_isPart τ x0) ∧
  if (bi (m_Mo_isPart τ x0)) = 0 then
    True
  else
    (k_Mo_unitsOf (wn τ 0 0) x0) ∧
    True

def m_Mo_where (τ : SM) (x0 : Int32) (x1 : Int32) (x2 : Int32) : Int32 × SM :=
  if (bi (m_Mo_isGate τ x0 x2)) = 0 then
    (0, (wn τ 0 1))
  else
    if x1 < 0 then
      (0, (wn τ 0 1))
    else
      if (m_Mo_unitsOf τ x0).1 ≤ x1 then
        (0, (wn ((m_Mo_unitsOf τ x0).2) 0 1))
      else
        ((m_Mo_pageOf (wn ((m_Mo_unitsOf τ x0).2) 0 0) ((yL (wn ((m_Mo_unitsOf τ x0).2) 0 0) 0 ((2192 + (8 * x0)) + x2).toNatClampNeg) - 1) x1), (wn ((m_Mo_unitsOf τ x0).2) 0 0))

def k_Mo_where (τ : SM) (x0 : Int32) (x1 : Int32) (x2 : Int32) : Prop :=
  (k_Mo_isGate τ x0 x2) ∧
  if (bi (m_Mo_isGate τ x0 x2)) = 0 then
    True
  else
    if x1 < 0 then
      True
    else
      (k_Mo_unitsOf τ x0) ∧
      if (m_Mo_unitsOf τ x0).1 ≤ x1 then
        True
      else
        (vp_in ((2192 + (8 * x0)) + x2) (lnML 0)) ∧
        (k_Mo_pageOf (wn ((m_Mo_unitsOf τ x0).2) 0 0) ((yL (wn ((m_Mo_unitsOf τ x0).2) 0 0) 0 ((2192 + (8 * x0)) + x2).toNatClampNeg) - 1) x1) ∧
        True

section SMW
variable {l : Launch} {D : va_G} {N0 N1 : Nat} {G : Nat → Nat → Nat} {cI cL cQ : ClassId} {rest : va_W}
set_option maxHeartbeats 400000 in
set_option maxRecDepth 100000 in
theorem w_Mo_find_93 {p : Program} {e : Env} {s : State} {m : MethodId} {args : Array Value} {below : List Frame} {meth : Method} {c : Code} {RES : Int32} (K : SM → Int32 → Int32 → Int32 → Int32 → Int32 → Int32) (KP : SM → Int32 → Int32 → Int32 → Int32 → Int32 → Prop)  (τ : SM)  (hC : cx D classes (tyL cI cL cQ) NWL ALLW N1 p s m args meth c b_Mo_find 9 (some .int) R_Mo) {nO : Nat} (hK : ∀ (v1 : Int32) (v2 : Int32) (v3 : Int32) (v4 : Int32) (v5 : Int32), upI nO (m_Mo_count τ 4) v5 → K τ  v1 v2 v3 v4 v5 = RES → (KP τ  v1 v2 v3 v4 v5) = True → ∀ (H : Heap) (locs : List Loc), bd D classes N0 N1 (wsM G cI cL τ rest) s H locs → ∀ (ls : Array Slot), lv_has ls 9 [(0, .ref (G 4 0)), (1, .int v1), (2, .int v2), (3, .int v3), (4, .int v4), (5, .int v5)] → W p l e { frames := 1, cells := 0, slots := 0, locals := 21 } s m args below meth c H locs 0 0 (MQ below (qx D classes N0 N1 (some (.int RES)) (fun w => w = wsM G cI cL τ rest)) args s 0 0 (ga N1)) (F0 m 3 ls [])) :
    ∀ (n : Nat) (v1 : Int32) (v2 : Int32) (v3 : Int32) (v4 : Int32) (v5 : Int32) (v6 : Int32) (v7 : Int32) (v8 : Int32), (upI n v4 v8 ∧ upI nO (m_Mo_count τ 4) (v5 + 1)) → lp_Mo_find_93 K n τ  v1 v2 v3 v4 v5 v6 v7 v8 = RES → (kl_Mo_find_93 KP n τ  v1 v2 v3 v4 v5 v6 v7 v8) = True → ∀ (H : Heap) (locs : List Loc), bd D classes N0 N1 (wsM G cI cL τ rest) s H locs → ∀ (ls : Array Slot), lv_has ls 9 [(0, .ref (G 4 0)), (1, .int v1), (2, .int v2), (3, .int v3), (4, .int v4), (5, .int v5), (6, .int v6), (7, .int v7), (8, .int v8)] → W p l e { frames := 1, cells := 0, slots := 0, locals := 21 } s m args below meth c H locs 0 0 (MQ below (qx D classes N0 N1 (some (.int RES)) (fun w => w = wsM G cI cL τ rest)) args s 0 0 (ga N1)) (F0 m 93 ls []) := by
  have hx := hC.1
  have hb := hC.2.1
  intro n
  induction n with
  | zero =>
    intro v1 v2 v3 v4 v5 v6 v7 v8 hI
    exact absurd hI (fun h => up_zero h.1)
  | succ n ih =>
    intro v1 v2 v3 v4 v5 v6 v7 v8 hI hR hk H locs hB ls hl
    rw [lp_Mo_find_93] at hR
    rw [kl_Mo_find_93] at hk
    refine lv_iload hx hb d_Mo_find_93 (lv_at hl 8 rfl) ?_
    refine lv_iload hx hb d_Mo_find_95 (lv_at hl 4 rfl) ?_
    refine lv_icmp_ge (tgt := 142) hx hb d_Mo_find_97 (by decide) (fun c_1 => ?_) (fun c_1 => ?_)
    · rw [if_pos c_1] at hR hk
      refine lv_iload hx hb d_Mo_find_142 (lv_at hl 7 rfl) ?_
      refine lv_if_eq (tgt := 150) hx hb d_Mo_find_144 (by decide) (fun c_2 => ?_) (fun c_2 => ?_)
      · rw [if_pos c_2] at hR hk
        refine lv_iinc (v := (v5 + 1)) (lv' := [(5, .int (v5 + 1)), (0, .ref (G 4 0)), (1, .int v1), (2, .int v2), (3, .int v3), (4, .int v4), (6, .int v6), (7, .int v7), (8, .int v8)]) hx hb d_Mo_find_150 hl (k := 5) rfl rfl (by decide) rfl (fun ls hl => ?_)
        refine lv_goto (tgt := 3) hx hb d_Mo_find_153 (by decide) ?_
        exact hK v1 v2 v3 v4 (v5 + 1) (hI.2) hR hk _ _ hB ls (lv_sub hl [1, 2, 3, 4, 5, 0] rfl)
      · rw [if_neg c_2] at hR hk
        refine lv_iload hx hb d_Mo_find_147 (lv_at hl 6 rfl) ?_
        subst hR
        exact ri hC hB rfl d_Mo_find_149
    · rw [if_neg c_1] at hR hk
      refine lv_iload hx hb d_Mo_find_100 (lv_at hl 7 rfl) ?_
      refine lv_if_eq (tgt := 142) hx hb d_Mo_find_102 (by decide) (fun c_3 => ?_) (fun c_3 => ?_)
      · rw [if_pos c_3] at hR hk
        refine lv_iload hx hb d_Mo_find_142 (lv_at hl 7 rfl) ?_
        refine lv_if_eq (tgt := 150) hx hb d_Mo_find_144 (by decide) (fun c_4 => ?_) (fun c_4 => ?_)
        · rw [if_pos c_4] at hR hk
          refine lv_iinc (v := (v5 + 1)) (lv' := [(5, .int (v5 + 1)), (0, .ref (G 4 0)), (1, .int v1), (2, .int v2), (3, .int v3), (4, .int v4), (6, .int v6), (7, .int v7), (8, .int v8)]) hx hb d_Mo_find_150 hl (k := 5) rfl rfl (by decide) rfl (fun ls hl => ?_)
          refine lv_goto (tgt := 3) hx hb d_Mo_find_153 (by decide) ?_
          exact hK v1 v2 v3 v4 (v5 + 1) (hI.2) hR hk _ _ hB ls (lv_sub hl [1, 2, 3, 4, 5, 0] rfl)
        · rw [if_neg c_4] at hR hk
          refine lv_iload hx hb d_Mo_find_147 (lv_at hl 6 rfl) ?_
          subst hR
          exact ri hC hB rfl d_Mo_find_149
      · rw [if_neg c_3] at hR hk
        refine lv_aload_n hx hb d_Mo_find_105 rfl (lv_at hl 0 rfl) ?_
        refine gt hC hB _ lkM_o rfl i_Mo 1 (by decide) rfl kw_892 rfl d_Mo_find_106 ?_
        refine lv_iload hx hb d_Mo_find_109 (lv_at hl 6 rfl) ?_
        refine lv_iconst (v := 5) hx hb d_Mo_find_111 (by decide) ?_
        refine lv_iadd hx hb d_Mo_find_112 ?_
        refine lv_iload hx hb d_Mo_find_113 (lv_at hl 8 rfl) ?_
        refine lv_iadd hx hb d_Mo_find_115 ?_
        refine va_lald hx hb hC.2.2.2.2.2.2.2.1.1 hB.1 _ 1 (lkM_l (by decide : 0 < 4)) rfl (of_eq_true (andL hk)) d_Mo_find_116 ?_
        replace hk := andR hk
        refine lv_aload_n hx hb d_Mo_find_117 rfl (lv_at hl 0 rfl) ?_
        refine gt hC hB _ lkM_o rfl i_Mo 13 (by decide) rfl kw_904 rfl d_Mo_find_118 ?_
        refine lv_iload hx hb d_Mo_find_121 (lv_at hl 8 rfl) ?_
        refine va_iald hx hb hC.2.2.2.2.2.2.2.1.1 hB.1 _ 0 (lkM_i (by decide : 4 < 7)) rfl (of_eq_true (andL hk)) d_Mo_find_123 ?_
        replace hk := andR hk
        refine lv_i2l hx hb d_Mo_find_124 rfl ?_
        refine W.lcmp hx hb d_Mo_find_125 ?_
        refine lv_if_ne (tgt := 133) hx hb d_Mo_find_126 (by decide) (fun c_5 => ?_) (fun c_5 => ?_)
        · rw [if_neg c_5] at hR hk
          refine lv_iconst (v := 0) hx hb d_Mo_find_133 (by decide) ?_
          refine lv_istore (lv' := [(7, .int 0), (0, .ref (G 4 0)), (1, .int v1), (2, .int v2), (3, .int v3), (4, .int v4), (5, .int v5), (6, .int v6), (8, .int v8)]) hx hb d_Mo_find_134 hl (by decide) rfl (fun ls hl => ?_)
          refine lv_iinc (v := (v8 + 1)) (lv' := [(8, .int (v8 + 1)), (7, .int 0), (0, .ref (G 4 0)), (1, .int v1), (2, .int v2), (3, .int v3), (4, .int v4), (5, .int v5), (6, .int v6)]) hx hb d_Mo_find_136 hl (k := 8) rfl rfl (by decide) rfl (fun ls hl => ?_)
          refine lv_goto (tgt := 93) hx hb d_Mo_find_139 (by decide) ?_
          exact ih v1 v2 v3 v4 v5 v6 0 (v8 + 1) (⟨up_step hI.1 (by assumption), hI.2⟩) hR hk _ _ hB ls (lv_sub hl [2, 3, 4, 5, 6, 7, 8, 1, 0] rfl)
        · rw [if_pos c_5] at hR hk
          refine lv_iconst (v := 1) hx hb d_Mo_find_129 (by decide) ?_
          refine lv_goto (tgt := 134) hx hb d_Mo_find_130 (by decide) ?_
          refine lv_istore (lv' := [(7, .int 1), (0, .ref (G 4 0)), (1, .int v1), (2, .int v2), (3, .int v3), (4, .int v4), (5, .int v5), (6, .int v6), (8, .int v8)]) hx hb d_Mo_find_134 hl (by decide) rfl (fun ls hl => ?_)
          refine lv_iinc (v := (v8 + 1)) (lv' := [(8, .int (v8 + 1)), (7, .int 1), (0, .ref (G 4 0)), (1, .int v1), (2, .int v2), (3, .int v3), (4, .int v4), (5, .int v5), (6, .int v6)]) hx hb d_Mo_find_136 hl (k := 8) rfl rfl (by decide) rfl (fun ls hl => ?_)
          refine lv_goto (tgt := 93) hx hb d_Mo_find_139 (by decide) ?_
          exact ih v1 v2 v3 v4 v5 v6 1 (v8 + 1) (⟨up_step hI.1 (by assumption), hI.2⟩) hR hk _ _ hB ls (lv_sub hl [2, 3, 4, 5, 6, 7, 8, 1, 0] rfl)

set_option maxHeartbeats 400000 in
set_option maxRecDepth 100000 in
theorem w_Mo_find_3 {p : Program} {e : Env} {s : State} {m : MethodId} {args : Array Value} {below : List Frame} {meth : Method} {c : Code} {RES : Int32}  (τ : SM)  (hC : cx D classes (tyL cI cL cQ) NWL ALLW N1 p s m args meth c b_Mo_find 9 (some .int) R_Mo) :
    ∀ (n : Nat) (v1 : Int32) (v2 : Int32) (v3 : Int32) (v4 : Int32) (v5 : Int32), upI n (m_Mo_count τ 4) v5 → lp_Mo_find_3 n τ  v1 v2 v3 v4 v5 = RES → (kl_Mo_find_3 n τ  v1 v2 v3 v4 v5) = True → ∀ (H : Heap) (locs : List Loc), bd D classes N0 N1 (wsM G cI cL τ rest) s H locs → ∀ (ls : Array Slot), lv_has ls 9 [(0, .ref (G 4 0)), (1, .int v1), (2, .int v2), (3, .int v3), (4, .int v4), (5, .int v5)] → W p l e { frames := 1, cells := 0, slots := 0, locals := 21 } s m args below meth c H locs 0 0 (MQ below (qx D classes N0 N1 (some (.int RES)) (fun w => w = wsM G cI cL τ rest)) args s 0 0 (ga N1)) (F0 m 3 ls []) := by
  have hx := hC.1
  have hb := hC.2.1
  intro n
  induction n with
  | zero =>
    intro v1 v2 v3 v4 v5 hI
    exact absurd hI up_zero
  | succ n ih =>
    intro v1 v2 v3 v4 v5 hI hR hk H locs hB ls hl
    rw [lp_Mo_find_3] at hR
    rw [kl_Mo_find_3] at hk
    refine lv_iload hx hb d_Mo_find_3 (lv_at hl 5 rfl) ?_
    refine lv_aload_n hx hb d_Mo_find_5 rfl (lv_at hl 0 rfl) ?_
    refine lv_iconst (v := 4) hx hb d_Mo_find_6 (by decide) ?_
    refine kV hC hB _ lkM_o rfl (c_Mo_count τ  4 (andL hk)) allw_ok mf_Mo_count kw_963 ks_29 kw_961 ⟨rfl, rfl, Nat.le_of_ble_eq_true rfl, Nat.le_of_ble_eq_true rfl⟩ rfl rfl hl.1 (Nat.le_of_ble_eq_true rfl) d_Mo_find_7 ⟨Nat.le_of_ble_eq_true rfl, Nat.le_of_ble_eq_true rfl⟩ (roK fun H locs hB => ?_)
    replace hk := andR hk
    refine lv_icmp_ge (tgt := 156) hx hb d_Mo_find_10 (by decide) (fun c_1 => ?_) (fun c_1 => ?_)
    · rw [if_pos c_1] at hR hk
      refine lv_iconst (v := (-1)) hx hb d_Mo_find_156 (by decide) ?_
      subst hR
      exact ri hC hB rfl d_Mo_find_157
    · rw [if_neg c_1] at hR hk
      refine lv_sipush (v := 2682) hx hb d_Mo_find_13 (by decide) ?_
      refine lv_bipush (v := 29) hx hb d_Mo_find_16 (by decide) ?_
      refine lv_iload hx hb d_Mo_find_18 (lv_at hl 5 rfl) ?_
      refine lv_imul hx hb d_Mo_find_20 ?_
      refine lv_iadd hx hb d_Mo_find_21 ?_
      refine lv_istore (lv' := [(6, .int (2682 + (29 * v5))), (0, .ref (G 4 0)), (1, .int v1), (2, .int v2), (3, .int v3), (4, .int v4), (5, .int v5)]) hx hb d_Mo_find_22 hl (by decide) rfl (fun ls hl => ?_)
      refine lv_aload_n hx hb d_Mo_find_24 rfl (lv_at hl 1 rfl) ?_
      refine gt hC hB _ lkM_o rfl i_Mo 1 (by decide) rfl kw_892 rfl d_Mo_find_25 ?_
      refine lv_iload hx hb d_Mo_find_28 (lv_at hl 0 rfl) ?_
      refine va_lald hx hb hC.2.2.2.2.2.2.2.1.1 hB.1 _ 1 (lkM_l (by decide : 0 < 4)) rfl (of_eq_true (andL hk)) d_Mo_find_30 ?_
      replace hk := andR hk
      refine lv_iload_n hx hb d_Mo_find_31 rfl (lv_at hl 2 rfl) ?_
      refine lv_i2l hx hb d_Mo_find_32 rfl ?_
      refine W.lcmp hx hb d_Mo_find_33 ?_
      refine lv_if_ne (tgt := 87) hx hb d_Mo_find_34 (by decide) (fun c_2 => ?_) (fun c_2 => ?_)
      · rw [if_neg c_2] at hR hk
        refine lv_iconst (v := 0) hx hb d_Mo_find_87 (by decide) ?_
        refine lv_istore (lv' := [(7, .int 0), (6, .int (2682 + (29 * v5))), (0, .ref (G 4 0)), (1, .int v1), (2, .int v2), (3, .int v3), (4, .int v4), (5, .int v5)]) hx hb d_Mo_find_88 hl (by decide) rfl (fun ls hl => ?_)
        refine lv_iconst (v := 0) hx hb d_Mo_find_90 (by decide) ?_
        refine lv_istore (lv' := [(8, .int 0), (7, .int 0), (6, .int (2682 + (29 * v5))), (0, .ref (G 4 0)), (1, .int v1), (2, .int v2), (3, .int v3), (4, .int v4), (5, .int v5)]) hx hb d_Mo_find_91 hl (by decide) rfl (fun ls hl => ?_)
        exact w_Mo_find_93 (lp_Mo_find_3 n) (kl_Mo_find_3 n)  τ  hC ih (v4.toNatClampNeg + 1) v1 v2 v3 v4 v5 (2682 + (29 * v5)) 0 0 (⟨up_init _, up_step hI (by assumption)⟩) hR hk _ _ hB ls (lv_sub hl [3, 4, 5, 6, 7, 8, 2, 1, 0] rfl)
      · rw [if_pos c_2] at hR hk
        refine lv_aload_n hx hb d_Mo_find_37 rfl (lv_at hl 1 rfl) ?_
        refine gt hC hB _ lkM_o rfl i_Mo 1 (by decide) rfl kw_892 rfl d_Mo_find_38 ?_
        refine lv_iload hx hb d_Mo_find_41 (lv_at hl 0 rfl) ?_
        refine lv_iconst (v := 1) hx hb d_Mo_find_43 (by decide) ?_
        refine lv_iadd hx hb d_Mo_find_44 ?_
        refine va_lald hx hb hC.2.2.2.2.2.2.2.1.1 hB.1 _ 1 (lkM_l (by decide : 0 < 4)) rfl (of_eq_true (andL hk)) d_Mo_find_45 ?_
        replace hk := andR hk
        refine lv_iload_n hx hb d_Mo_find_46 rfl (lv_at hl 3 rfl) ?_
        refine lv_i2l hx hb d_Mo_find_47 rfl ?_
        refine W.lcmp hx hb d_Mo_find_48 ?_
        refine lv_if_ne (tgt := 87) hx hb d_Mo_find_49 (by decide) (fun c_3 => ?_) (fun c_3 => ?_)
        · rw [if_neg c_3] at hR hk
          refine lv_iconst (v := 0) hx hb d_Mo_find_87 (by decide) ?_
          refine lv_istore (lv' := [(7, .int 0), (6, .int (2682 + (29 * v5))), (0, .ref (G 4 0)), (1, .int v1), (2, .int v2), (3, .int v3), (4, .int v4), (5, .int v5)]) hx hb d_Mo_find_88 hl (by decide) rfl (fun ls hl => ?_)
          refine lv_iconst (v := 0) hx hb d_Mo_find_90 (by decide) ?_
          refine lv_istore (lv' := [(8, .int 0), (7, .int 0), (6, .int (2682 + (29 * v5))), (0, .ref (G 4 0)), (1, .int v1), (2, .int v2), (3, .int v3), (4, .int v4), (5, .int v5)]) hx hb d_Mo_find_91 hl (by decide) rfl (fun ls hl => ?_)
          exact w_Mo_find_93 (lp_Mo_find_3 n) (kl_Mo_find_3 n)  τ  hC ih (v4.toNatClampNeg + 1) v1 v2 v3 v4 v5 (2682 + (29 * v5)) 0 0 (⟨up_init _, up_step hI (by assumption)⟩) hR hk _ _ hB ls (lv_sub hl [3, 4, 5, 6, 7, 8, 2, 1, 0] rfl)
        · rw [if_pos c_3] at hR hk
          refine lv_aload_n hx hb d_Mo_find_52 rfl (lv_at hl 1 rfl) ?_
          refine gt hC hB _ lkM_o rfl i_Mo 1 (by decide) rfl kw_892 rfl d_Mo_find_53 ?_
          refine lv_iload hx hb d_Mo_find_56 (lv_at hl 0 rfl) ?_
          refine lv_iconst (v := 2) hx hb d_Mo_find_58 (by decide) ?_
          refine lv_iadd hx hb d_Mo_find_59 ?_
          refine va_lald hx hb hC.2.2.2.2.2.2.2.1.1 hB.1 _ 1 (lkM_l (by decide : 0 < 4)) rfl (of_eq_true (andL hk)) d_Mo_find_60 ?_
          replace hk := andR hk
          refine lv_iload_n hx hb d_Mo_find_61 rfl (lv_at hl 4 rfl) ?_
          refine lv_i2l hx hb d_Mo_find_62 rfl ?_
          refine W.lcmp hx hb d_Mo_find_63 ?_
          refine lv_if_ne (tgt := 87) hx hb d_Mo_find_64 (by decide) (fun c_4 => ?_) (fun c_4 => ?_)
          · rw [if_neg c_4] at hR hk
            refine lv_iconst (v := 0) hx hb d_Mo_find_87 (by decide) ?_
            refine lv_istore (lv' := [(7, .int 0), (6, .int (2682 + (29 * v5))), (0, .ref (G 4 0)), (1, .int v1), (2, .int v2), (3, .int v3), (4, .int v4), (5, .int v5)]) hx hb d_Mo_find_88 hl (by decide) rfl (fun ls hl => ?_)
            refine lv_iconst (v := 0) hx hb d_Mo_find_90 (by decide) ?_
            refine lv_istore (lv' := [(8, .int 0), (7, .int 0), (6, .int (2682 + (29 * v5))), (0, .ref (G 4 0)), (1, .int v1), (2, .int v2), (3, .int v3), (4, .int v4), (5, .int v5)]) hx hb d_Mo_find_91 hl (by decide) rfl (fun ls hl => ?_)
            exact w_Mo_find_93 (lp_Mo_find_3 n) (kl_Mo_find_3 n)  τ  hC ih (v4.toNatClampNeg + 1) v1 v2 v3 v4 v5 (2682 + (29 * v5)) 0 0 (⟨up_init _, up_step hI (by assumption)⟩) hR hk _ _ hB ls (lv_sub hl [3, 4, 5, 6, 7, 8, 2, 1, 0] rfl)
          · rw [if_pos c_4] at hR hk
            refine lv_aload_n hx hb d_Mo_find_67 rfl (lv_at hl 1 rfl) ?_
            refine gt hC hB _ lkM_o rfl i_Mo 1 (by decide) rfl kw_892 rfl d_Mo_find_68 ?_
            refine lv_iload hx hb d_Mo_find_71 (lv_at hl 0 rfl) ?_
            refine lv_iconst (v := 4) hx hb d_Mo_find_73 (by decide) ?_
            refine lv_iadd hx hb d_Mo_find_74 ?_
            refine va_lald hx hb hC.2.2.2.2.2.2.2.1.1 hB.1 _ 1 (lkM_l (by decide : 0 < 4)) rfl (of_eq_true (andL hk)) d_Mo_find_75 ?_
            replace hk := andR hk
            refine lv_iload hx hb d_Mo_find_76 (lv_at hl 5 rfl) ?_
            refine lv_i2l hx hb d_Mo_find_78 rfl ?_
            refine W.lcmp hx hb d_Mo_find_79 ?_
            refine lv_if_ne (tgt := 87) hx hb d_Mo_find_80 (by decide) (fun c_5 => ?_) (fun c_5 => ?_)
            · rw [if_neg c_5] at hR hk
              refine lv_iconst (v := 0) hx hb d_Mo_find_87 (by decide) ?_
              refine lv_istore (lv' := [(7, .int 0), (6, .int (2682 + (29 * v5))), (0, .ref (G 4 0)), (1, .int v1), (2, .int v2), (3, .int v3), (4, .int v4), (5, .int v5)]) hx hb d_Mo_find_88 hl (by decide) rfl (fun ls hl => ?_)
              refine lv_iconst (v := 0) hx hb d_Mo_find_90 (by decide) ?_
              refine lv_istore (lv' := [(8, .int 0), (7, .int 0), (6, .int (2682 + (29 * v5))), (0, .ref (G 4 0)), (1, .int v1), (2, .int v2), (3, .int v3), (4, .int v4), (5, .int v5)]) hx hb d_Mo_find_91 hl (by decide) rfl (fun ls hl => ?_)
              exact w_Mo_find_93 (lp_Mo_find_3 n) (kl_Mo_find_3 n)  τ  hC ih (v4.toNatClampNeg + 1) v1 v2 v3 v4 v5 (2682 + (29 * v5)) 0 0 (⟨up_init _, up_step hI (by assumption)⟩) hR hk _ _ hB ls (lv_sub hl [3, 4, 5, 6, 7, 8, 2, 1, 0] rfl)
            · rw [if_pos c_5] at hR hk
              refine lv_iconst (v := 1) hx hb d_Mo_find_83 (by decide) ?_
              refine lv_goto (tgt := 88) hx hb d_Mo_find_84 (by decide) ?_
              refine lv_istore (lv' := [(7, .int 1), (6, .int (2682 + (29 * v5))), (0, .ref (G 4 0)), (1, .int v1), (2, .int v2), (3, .int v3), (4, .int v4), (5, .int v5)]) hx hb d_Mo_find_88 hl (by decide) rfl (fun ls hl => ?_)
              refine lv_iconst (v := 0) hx hb d_Mo_find_90 (by decide) ?_
              refine lv_istore (lv' := [(8, .int 0), (7, .int 1), (6, .int (2682 + (29 * v5))), (0, .ref (G 4 0)), (1, .int v1), (2, .int v2), (3, .int v3), (4, .int v4), (5, .int v5)]) hx hb d_Mo_find_91 hl (by decide) rfl (fun ls hl => ?_)
              exact w_Mo_find_93 (lp_Mo_find_3 n) (kl_Mo_find_3 n)  τ  hC ih (v4.toNatClampNeg + 1) v1 v2 v3 v4 v5 (2682 + (29 * v5)) 1 0 (⟨up_init _, up_step hI (by assumption)⟩) hR hk _ _ hB ls (lv_sub hl [3, 4, 5, 6, 7, 8, 2, 1, 0] rfl)

set_option maxHeartbeats 400000 in
set_option maxRecDepth 100000 in
theorem c_Mo_find  (τ : SM)  (x0 : Int32) (x1 : Int32) (x2 : Int32) (x3 : Int32) (hk : (k_Mo_find τ x0 x1 x2 x3) = True) : CM l y_Mo_find b_Mo_find 9 (some .int) { frames := 1, cells := 0, slots := 0, locals := 21 } D (tyL cI cL cQ) N0 N1 [.ref (G 4 0), .int x0, .int x1, .int x2, .int x3] (wsM G cI cL τ rest) (some (.int (m_Mo_find τ x0 x1 x2 x3))) (fun w => w = wsM G cI cL τ rest) 0 0 := by
  generalize hR : m_Mo_find τ x0 x1 x2 x3 = RES
  refine met_of (own := R_Mo) (by decide) rfl nwl_ok ?_
  intro p e s m below meth c hC hin hB
  have hx := hC.1
  have hb := hC.2.1
  have hl := lv_entry ([.ref (G 4 0), .int x0, .int x1, .int x2, .int x3]) (n := 9) (Nat.le_of_ble_eq_true rfl)
  rw [lg_entry_eq]
  generalize (lg_sl ([.ref (G 4 0), .int x0, .int x1, .int x2, .int x3]) ++ List.replicate (9 - (lg_sl ([.ref (G 4 0), .int x0, .int x1, .int x2, .int x3])).length) Slot.unset).toArray = ls at hl ⊢
  have hl : lv_has ls 9 [(0, .ref (G 4 0)), (1, .int x0), (2, .int x1), (3, .int x2), (4, .int x3)] := hl
  rw [m_Mo_find] at hR
  rw [k_Mo_find] at hk
  refine lv_iconst (v := 0) hx hb d_Mo_find_0 (by decide) ?_
  refine lv_istore (lv' := [(5, .int 0), (0, .ref (G 4 0)), (1, .int x0), (2, .int x1), (3, .int x2), (4, .int x3)]) hx hb d_Mo_find_1 hl (by decide) rfl (fun ls hl => ?_)
  exact w_Mo_find_3  τ  hC ((m_Mo_count τ 4).toNatClampNeg + 1) x0 x1 x2 x3 0 (up_init _) hR hk _ _ hB ls (lv_sub hl [1, 2, 3, 4, 5, 0] rfl)

set_option maxHeartbeats 400000 in
set_option maxRecDepth 100000 in
theorem w_Mo_tell_168 {p : Program} {e : Env} {s : State} {m : MethodId} {args : Array Value} {below : List Frame} {meth : Method} {c : Code} {RES : Bool × SM}   (hC : cx D classes (tyL cI cL cQ) NWL ALLW N0 p s m args meth c b_Mo_tell 10 (some .boolean) R_Mo) :
    ∀ (n : Nat) (τ : SM) (v1 : Int32) (v2 : Int32) (v3 : Int32) (v4 : Int32) (v5 : Int64) (v7 : Int32) (v8 : Int32) (v9 : Int32), upI n v7 v9 → lp_Mo_tell_168 n τ  v1 v2 v3 v4 v5 v7 v8 v9 = RES → (kl_Mo_tell_168 n τ  v1 v2 v3 v4 v5 v7 v8 v9) = True → ∀ (H : Heap) (locs : List Loc), bd D classes N0 N0 (wsM G cI cL τ rest) s H locs → ∀ (ls : Array Slot), lv_has ls 10 [(0, .ref (G 4 0)), (1, .int v1), (2, .int v2), (3, .int v3), (4, .int v4), (5, .long v5), (7, .int v7), (8, .int v8), (9, .int v9)] → W p l e { frames := 5, cells := 0, slots := 0, locals := 110 } s m args below meth c H locs 0 0 (MQ below (qx D classes N0 N0 (some (.int (bi RES.1))) (fun w => w = wsM G cI cL RES.2 rest)) args s 0 0 (ga N0)) (F0 m 168 ls []) := by
  obtain ⟨RV, RS⟩ := RES
  dsimp only
  have hx := hC.1
  have hb := hC.2.1
  intro n
  induction n with
  | zero =>
    intro τ v1 v2 v3 v4 v5 v7 v8 v9 hI
    exact absurd hI up_zero
  | succ n ih =>
    intro τ v1 v2 v3 v4 v5 v7 v8 v9 hI hR hk H locs hB ls hl
    rw [lp_Mo_tell_168] at hR
    rw [kl_Mo_tell_168] at hk
    refine lv_iload hx hb d_Mo_tell_168 (lv_at hl 8 rfl) ?_
    refine lv_iload hx hb d_Mo_tell_170 (lv_at hl 6 rfl) ?_
    refine lv_icmp_ge (tgt := 201) hx hb d_Mo_tell_172 (by decide) (fun c_1 => ?_) (fun c_1 => ?_)
    · rw [if_pos c_1] at hR hk
      refine lv_aload_n hx hb d_Mo_tell_201 rfl (lv_at hl 0 rfl) ?_
      refine gt hC hB _ lkM_o rfl i_Mo 1 (by decide) rfl kw_892 rfl d_Mo_tell_202 ?_
      refine lv_iconst (v := 4) hx hb d_Mo_tell_205 (by decide) ?_
      refine lv_dup2_11 hx hb d_Mo_tell_206 rfl rfl ?_
      refine va_lald hx hb hC.2.2.2.2.2.2.2.1.1 hB.1 _ 1 (lkM_l (by decide : 0 < 4)) rfl (of_eq_true (andL hk)) d_Mo_tell_207 ?_
      replace hk := andR hk
      refine lv_lconst (v := 1) hx hb d_Mo_tell_208 (by decide) ?_
      refine lv_ladd hx hb d_Mo_tell_209 ?_
      refine as_l rfl hC hB _ 1 (lkM_l (by decide : 0 < 4)) rfl (of_eq_true (andL hk)) d_Mo_tell_210 (ws' := wsM G cI cL (wL τ 0 ((4 : Int32).toNatClampNeg) ((yL τ 0 (4 : Int32).toNatClampNeg) + 1)) rest) (setM_l (by decide : 0 < 4) _ _) (fun H locs hB => ?_)
      replace hk := andR hk
      refine lv_aload_n hx hb d_Mo_tell_211 rfl (lv_at hl 0 rfl) ?_
      refine gt hC hB _ lkM_o rfl i_Mo 1 (by decide) rfl kw_892 rfl d_Mo_tell_212 ?_
      refine lv_iload hx hb d_Mo_tell_215 (lv_at hl 7 rfl) ?_
      refine lv_iconst (v := 3) hx hb d_Mo_tell_217 (by decide) ?_
      refine lv_iadd hx hb d_Mo_tell_218 ?_
      refine lv_lload hx hb d_Mo_tell_219 (lv_at hl 5 rfl) ?_
      refine as_l rfl hC hB _ 1 (lkM_l (by decide : 0 < 4)) rfl (of_eq_true (andL hk)) d_Mo_tell_221 (ws' := wsM G cI cL (wL (wL τ 0 ((4 : Int32).toNatClampNeg) ((yL τ 0 (4 : Int32).toNatClampNeg) + 1)) 0 ((v8 + 3).toNatClampNeg) v5) rest) (setM_l (by decide : 0 < 4) _ _) (fun H locs hB => ?_)
      replace hk := andR hk
      refine lv_aload_n hx hb d_Mo_tell_222 rfl (lv_at hl 0 rfl) ?_
      refine kV hC hB _ lkM_o rfl (c_Mo_done (wL (wL τ 0 ((4 : Int32).toNatClampNeg) ((yL τ 0 (4 : Int32).toNatClampNeg) + 1)) 0 ((v8 + 3).toNatClampNeg) v5)  (andL hk)) allw_ok mf_Mo_done kw_971 ks_31 kw_969 ⟨rfl, rfl, Nat.le_of_ble_eq_true rfl, Nat.le_of_ble_eq_true rfl⟩ rfl rfl hl.1 (Nat.le_of_ble_eq_true rfl) d_Mo_tell_223 ⟨Nat.le_of_ble_eq_true rfl, Nat.le_of_ble_eq_true rfl⟩ (roK fun H locs hB => ?_)
      replace hk := andR hk
      refine lv_iconst (v := 1) hx hb d_Mo_tell_226 (by decide) ?_
      obtain ⟨rfl, rfl⟩ := Prod.mk.inj hR
      exact rz (b := true) hC hB rfl d_Mo_tell_227
    · rw [if_neg c_1] at hR hk
      refine lv_aload_n hx hb d_Mo_tell_175 rfl (lv_at hl 0 rfl) ?_
      refine gt hC hB _ lkM_o rfl i_Mo 1 (by decide) rfl kw_892 rfl d_Mo_tell_176 ?_
      refine lv_iload hx hb d_Mo_tell_179 (lv_at hl 7 rfl) ?_
      refine lv_iconst (v := 5) hx hb d_Mo_tell_181 (by decide) ?_
      refine lv_iadd hx hb d_Mo_tell_182 ?_
      refine lv_iload hx hb d_Mo_tell_183 (lv_at hl 8 rfl) ?_
      refine lv_iadd hx hb d_Mo_tell_185 ?_
      refine lv_aload_n hx hb d_Mo_tell_186 rfl (lv_at hl 0 rfl) ?_
      refine gt hC hB _ lkM_o rfl i_Mo 13 (by decide) rfl kw_904 rfl d_Mo_tell_187 ?_
      refine lv_iload hx hb d_Mo_tell_190 (lv_at hl 8 rfl) ?_
      refine va_iald hx hb hC.2.2.2.2.2.2.2.1.1 hB.1 _ 0 (lkM_i (by decide : 4 < 7)) rfl (of_eq_true (andL hk)) d_Mo_tell_192 ?_
      replace hk := andR hk
      refine lv_i2l hx hb d_Mo_tell_193 rfl ?_
      refine as_l rfl hC hB _ 1 (lkM_l (by decide : 0 < 4)) rfl (of_eq_true (andL hk)) d_Mo_tell_194 (ws' := wsM G cI cL (wL τ 0 (((v8 + 5) + v9).toNatClampNeg) ((yI τ 4 v9.toNatClampNeg).toInt64)) rest) (setM_l (by decide : 0 < 4) _ _) (fun H locs hB => ?_)
      replace hk := andR hk
      refine lv_iinc (v := (v9 + 1)) (lv' := [(9, .int (v9 + 1)), (0, .ref (G 4 0)), (1, .int v1), (2, .int v2), (3, .int v3), (4, .int v4), (5, .long v5), (7, .int v7), (8, .int v8)]) hx hb d_Mo_tell_195 hl (k := 8) rfl rfl (by decide) rfl (fun ls hl => ?_)
      refine lv_goto (tgt := 168) hx hb d_Mo_tell_198 (by decide) ?_
      exact ih (wL τ 0 (((v8 + 5) + v9).toNatClampNeg) ((yI τ 4 v9.toNatClampNeg).toInt64)) v1 v2 v3 v4 v5 v7 v8 (v9 + 1) (up_step hI (by assumption)) hR hk _ _ hB ls (lv_sub hl [1, 2, 3, 4, 5, 6, 7, 8, 0] rfl)

set_option maxHeartbeats 400000 in
set_option maxRecDepth 100000 in
theorem c_Mo_tell  (τ : SM)  (x0 : Int32) (x1 : Int32) (x2 : Int32) (x3 : Int32) (x4 : Int64) (hk : (k_Mo_tell τ x0 x1 x2 x3 x4) = True) : CM l y_Mo_tell b_Mo_tell 10 (some .boolean) { frames := 5, cells := 0, slots := 0, locals := 110 } D (tyL cI cL cQ) N0 N0 [.ref (G 4 0), .int x0, .int x1, .int x2, .int x3, .long x4] (wsM G cI cL τ rest) (some (.int (bi ((m_Mo_tell τ x0 x1 x2 x3 x4).1)))) (fun w => w = wsM G cI cL ((m_Mo_tell τ x0 x1 x2 x3 x4).2) rest) 0 0 := by
  generalize hR : m_Mo_tell τ x0 x1 x2 x3 x4 = RES
  obtain ⟨RV, RS⟩ := RES
  dsimp only
  refine met_of (own := R_Mo) (by decide) rfl nwl_ok ?_
  intro p e s m below meth c hC hin hB
  have hx := hC.1
  have hb := hC.2.1
  have hl := lv_entry ([.ref (G 4 0), .int x0, .int x1, .int x2, .int x3, .long x4]) (n := 10) (Nat.le_of_ble_eq_true rfl)
  rw [lg_entry_eq]
  generalize (lg_sl ([.ref (G 4 0), .int x0, .int x1, .int x2, .int x3, .long x4]) ++ List.replicate (10 - (lg_sl ([.ref (G 4 0), .int x0, .int x1, .int x2, .int x3, .long x4])).length) Slot.unset).toArray = ls at hl ⊢
  have hl : lv_has ls 10 [(0, .ref (G 4 0)), (1, .int x0), (2, .int x1), (3, .int x2), (4, .int x3), (5, .long x4)] := hl
  rw [m_Mo_tell] at hR
  rw [k_Mo_tell] at hk
  refine lv_aload_n hx hb d_Mo_tell_0 rfl (lv_at hl 0 rfl) ?_
  refine lv_aload_n hx hb d_Mo_tell_1 rfl (lv_at hl 0 rfl) ?_
  refine lv_iload_n hx hb d_Mo_tell_2 rfl (lv_at hl 1 rfl) ?_
  refine kV hC hB _ lkM_o rfl (c_Mo_isVariant τ  x0 (andL hk)) allw_ok mf_Mo_isVariant kw_1099 ks_50 kw_1097 ⟨rfl, rfl, Nat.le_of_ble_eq_true rfl, Nat.le_of_ble_eq_true rfl⟩ rfl rfl hl.1 (Nat.le_of_ble_eq_true rfl) d_Mo_tell_3 ⟨Nat.le_of_ble_eq_true rfl, Nat.le_of_ble_eq_true rfl⟩ (roK fun H locs hB => ?_)
  replace hk := andR hk
  refine lv_if_eq (tgt := 29) hx hb d_Mo_tell_6 (by decide) (fun c_1 => ?_) (fun c_1 => ?_)
  · rw [if_pos c_1] at hR hk
    refine lv_iconst (v := 1) hx hb d_Mo_tell_29 (by decide) ?_
    refine pt (ty := .int) rfl hC hB _ lkM_o rfl i_Mo t_Mo t_Mo_ok n_Mo 0 (by decide) rfl rfl kw_891 (by decide +kernel) rfl rfl (Nat.le_of_ble_eq_true rfl) d_Mo_tell_30 (ws' := wsM G cI cL (wn τ 0 1) rest) setM_n0 (fun H locs hB => ?_)
    refine lv_aload_n hx hb d_Mo_tell_33 rfl (lv_at hl 0 rfl) ?_
    refine gt (v := .int 1) hC hB _ lkM_o rfl i_Mo 0 (by decide) rfl kw_891 rfl d_Mo_tell_34 ?_
    refine lv_if_eq (tgt := 42) hx hb d_Mo_tell_37 (by decide) (fun c_2 => absurd c_2 (by decide)) (fun c_2 => ?_)
    refine lv_iconst (v := 0) hx hb d_Mo_tell_40 (by decide) ?_
    obtain ⟨rfl, rfl⟩ := Prod.mk.inj hR
    exact rz (b := false) hC hB rfl d_Mo_tell_41
  · rw [if_neg c_1] at hR hk
    refine lv_aload_n hx hb d_Mo_tell_9 rfl (lv_at hl 0 rfl) ?_
    refine lv_iload_n hx hb d_Mo_tell_10 rfl (lv_at hl 2 rfl) ?_
    refine kV hC hB _ lkM_o rfl (c_Mo_isPage τ  x1 (andL hk)) allw_ok mf_Mo_isPage kw_1111 ks_52 kw_1109 ⟨rfl, rfl, Nat.le_of_ble_eq_true rfl, Nat.le_of_ble_eq_true rfl⟩ rfl rfl hl.1 (Nat.le_of_ble_eq_true rfl) d_Mo_tell_11 ⟨Nat.le_of_ble_eq_true rfl, Nat.le_of_ble_eq_true rfl⟩ (roK fun H locs hB => ?_)
    replace hk := andR hk
    refine lv_if_eq (tgt := 29) hx hb d_Mo_tell_14 (by decide) (fun c_3 => ?_) (fun c_3 => ?_)
    · rw [if_pos c_3] at hR hk
      refine lv_iconst (v := 1) hx hb d_Mo_tell_29 (by decide) ?_
      refine pt (ty := .int) rfl hC hB _ lkM_o rfl i_Mo t_Mo t_Mo_ok n_Mo 0 (by decide) rfl rfl kw_891 (by decide +kernel) rfl rfl (Nat.le_of_ble_eq_true rfl) d_Mo_tell_30 (ws' := wsM G cI cL (wn ((m_Mo_isPage τ x1).2) 0 1) rest) setM_n0 (fun H locs hB => ?_)
      refine lv_aload_n hx hb d_Mo_tell_33 rfl (lv_at hl 0 rfl) ?_
      refine gt (v := .int 1) hC hB _ lkM_o rfl i_Mo 0 (by decide) rfl kw_891 rfl d_Mo_tell_34 ?_
      refine lv_if_eq (tgt := 42) hx hb d_Mo_tell_37 (by decide) (fun c_4 => absurd c_4 (by decide)) (fun c_4 => ?_)
      refine lv_iconst (v := 0) hx hb d_Mo_tell_40 (by decide) ?_
      obtain ⟨rfl, rfl⟩ := Prod.mk.inj hR
      exact rz (b := false) hC hB rfl d_Mo_tell_41
    · rw [if_neg c_3] at hR hk
      refine lv_aload_n hx hb d_Mo_tell_17 rfl (lv_at hl 0 rfl) ?_
      refine lv_iload_n hx hb d_Mo_tell_18 rfl (lv_at hl 3 rfl) ?_
      refine kV hC hB _ lkM_o rfl (c_Mo_isPart ((m_Mo_isPage τ x1).2)  x2 (andL hk)) allw_ok mf_Mo_isPart kw_1063 ks_44 kw_1061 ⟨rfl, rfl, Nat.le_of_ble_eq_true rfl, Nat.le_of_ble_eq_true rfl⟩ rfl rfl hl.1 (Nat.le_of_ble_eq_true rfl) d_Mo_tell_19 ⟨Nat.le_of_ble_eq_true rfl, Nat.le_of_ble_eq_true rfl⟩ (roK fun H locs hB => ?_)
      replace hk := andR hk
      refine lv_if_eq (tgt := 29) hx hb d_Mo_tell_22 (by decide) (fun c_5 => ?_) (fun c_5 => ?_)
      · rw [if_pos c_5] at hR hk
        refine lv_iconst (v := 1) hx hb d_Mo_tell_29 (by decide) ?_
        refine pt (ty := .int) rfl hC hB _ lkM_o rfl i_Mo t_Mo t_Mo_ok n_Mo 0 (by decide) rfl rfl kw_891 (by decide +kernel) rfl rfl (Nat.le_of_ble_eq_true rfl) d_Mo_tell_30 (ws' := wsM G cI cL (wn ((m_Mo_isPage τ x1).2) 0 1) rest) setM_n0 (fun H locs hB => ?_)
        refine lv_aload_n hx hb d_Mo_tell_33 rfl (lv_at hl 0 rfl) ?_
        refine gt (v := .int 1) hC hB _ lkM_o rfl i_Mo 0 (by decide) rfl kw_891 rfl d_Mo_tell_34 ?_
        refine lv_if_eq (tgt := 42) hx hb d_Mo_tell_37 (by decide) (fun c_6 => absurd c_6 (by decide)) (fun c_6 => ?_)
        refine lv_iconst (v := 0) hx hb d_Mo_tell_40 (by decide) ?_
        obtain ⟨rfl, rfl⟩ := Prod.mk.inj hR
        exact rz (b := false) hC hB rfl d_Mo_tell_41
      · rw [if_neg c_5] at hR hk
        refine lv_iconst (v := 0) hx hb d_Mo_tell_25 (by decide) ?_
        refine lv_goto (tgt := 30) hx hb d_Mo_tell_26 (by decide) ?_
        refine pt (ty := .int) rfl hC hB _ lkM_o rfl i_Mo t_Mo t_Mo_ok n_Mo 0 (by decide) rfl rfl kw_891 (by decide +kernel) rfl rfl (Nat.le_of_ble_eq_true rfl) d_Mo_tell_30 (ws' := wsM G cI cL (wn ((m_Mo_isPage τ x1).2) 0 0) rest) setM_n0 (fun H locs hB => ?_)
        refine lv_aload_n hx hb d_Mo_tell_33 rfl (lv_at hl 0 rfl) ?_
        refine gt (v := .int 0) hC hB _ lkM_o rfl i_Mo 0 (by decide) rfl kw_891 rfl d_Mo_tell_34 ?_
        refine lv_if_eq (tgt := 42) hx hb d_Mo_tell_37 (by decide) (fun c_7 => ?_) (fun c_7 => absurd c_7 (by decide))
        refine lv_aload_n hx hb d_Mo_tell_42 rfl (lv_at hl 0 rfl) ?_
        refine lv_iload_n hx hb d_Mo_tell_43 rfl (lv_at hl 2 rfl) ?_
        refine kV hC hB _ lkM_o rfl (c_Mo_pathOf (wn ((m_Mo_isPage τ x1).2) 0 0)  x1 (andL hk)) allw_ok mf_Mo_pathOf kw_1119 ks_54 kw_1117 ⟨rfl, rfl, Nat.le_of_ble_eq_true rfl, Nat.le_of_ble_eq_true rfl⟩ rfl rfl hl.1 (Nat.le_of_ble_eq_true rfl) d_Mo_tell_44 ⟨Nat.le_of_ble_eq_true rfl, Nat.le_of_ble_eq_true rfl⟩ (roK fun H locs hB => ?_)
        replace hk := andR hk
        refine lv_istore (lv' := [(7, .int ((m_Mo_pathOf (wn ((m_Mo_isPage τ x1).2) 0 0) x1).1)), (0, .ref (G 4 0)), (1, .int x0), (2, .int x1), (3, .int x2), (4, .int x3), (5, .long x4)]) hx hb d_Mo_tell_47 hl (by decide) rfl (fun ls hl => ?_)
        refine lv_aload_n hx hb d_Mo_tell_49 rfl (lv_at hl 1 rfl) ?_
        refine lv_iload_n hx hb d_Mo_tell_50 rfl (lv_at hl 2 rfl) ?_
        refine lv_iload_n hx hb d_Mo_tell_51 rfl (lv_at hl 4 rfl) ?_
        refine lv_iload hx hb d_Mo_tell_52 (lv_at hl 5 rfl) ?_
        refine lv_iload hx hb d_Mo_tell_54 (lv_at hl 0 rfl) ?_
        refine kV hC hB _ lkM_o rfl (c_Mo_find ((m_Mo_pathOf (wn ((m_Mo_isPage τ x1).2) 0 0) x1).2)  x0 x2 x3 ((m_Mo_pathOf (wn ((m_Mo_isPage τ x1).2) 0 0) x1).1) (andL hk)) allw_ok mf_Mo_find kw_1123 ks_55 kw_1121 ⟨rfl, rfl, Nat.le_of_ble_eq_true rfl, Nat.le_of_ble_eq_true rfl⟩ rfl rfl hl.1 (Nat.le_of_ble_eq_true rfl) d_Mo_tell_56 ⟨Nat.le_of_ble_eq_true rfl, Nat.le_of_ble_eq_true rfl⟩ (roK fun H locs hB => ?_)
        replace hk := andR hk
        refine lv_istore (lv' := [(8, .int (m_Mo_find ((m_Mo_pathOf (wn ((m_Mo_isPage τ x1).2) 0 0) x1).2) x0 x2 x3 ((m_Mo_pathOf (wn ((m_Mo_isPage τ x1).2) 0 0) x1).1))), (7, .int ((m_Mo_pathOf (wn ((m_Mo_isPage τ x1).2) 0 0) x1).1)), (0, .ref (G 4 0)), (1, .int x0), (2, .int x1), (3, .int x2), (4, .int x3), (5, .long x4)]) hx hb d_Mo_tell_59 hl (by decide) rfl (fun ls hl => ?_)
        refine lv_iload hx hb d_Mo_tell_61 (lv_at hl 0 rfl) ?_
        refine lv_iconst (v := (-1)) hx hb d_Mo_tell_63 (by decide) ?_
        refine lv_icmp_ne (tgt := 80) hx hb d_Mo_tell_64 (by decide) (fun c_8 => ?_) (fun c_8 => ?_)
        · rw [if_neg c_8] at hR hk
          refine lv_aload_n hx hb d_Mo_tell_80 rfl (lv_at hl 2 rfl) ?_
          refine gt hC hB _ lkM_o rfl i_Mo 1 (by decide) rfl kw_892 rfl d_Mo_tell_81 ?_
          refine lv_iload hx hb d_Mo_tell_84 (lv_at hl 0 rfl) ?_
          refine lv_iconst (v := 3) hx hb d_Mo_tell_86 (by decide) ?_
          refine lv_iadd hx hb d_Mo_tell_87 ?_
          refine va_lald hx hb hC.2.2.2.2.2.2.2.1.1 hB.1 _ 1 (lkM_l (by decide : 0 < 4)) rfl (of_eq_true (andL hk)) d_Mo_tell_88 ?_
          replace hk := andR hk
          refine lv_lload hx hb d_Mo_tell_89 (lv_at hl 7 rfl) ?_
          refine W.lcmp hx hb d_Mo_tell_91 ?_
          refine lv_if_ne (tgt := 97) hx hb d_Mo_tell_92 (by decide) (fun c_11 => ?_) (fun c_11 => ?_)
          · rw [if_neg c_11] at hR hk
            refine lv_aload_n hx hb d_Mo_tell_97 rfl (lv_at hl 2 rfl) ?_
            refine kV hC hB _ lkM_o rfl (c_Mo_begin ((m_Mo_pathOf (wn ((m_Mo_isPage τ x1).2) 0 0) x1).2)  (andL hk)) allw_ok mf_Mo_begin kw_967 ks_30 kw_965 ⟨rfl, rfl, Nat.le_of_ble_eq_true rfl, Nat.le_of_ble_eq_true rfl⟩ rfl rfl hl.1 (Nat.le_of_ble_eq_true rfl) d_Mo_tell_98 ⟨Nat.le_of_ble_eq_true rfl, Nat.le_of_ble_eq_true rfl⟩ (roK fun H locs hB => ?_)
            replace hk := andR hk
            refine lv_iload hx hb d_Mo_tell_101 (lv_at hl 0 rfl) ?_
            refine lv_iconst (v := (-1)) hx hb d_Mo_tell_103 (by decide) ?_
            refine lv_icmp_ne (tgt := 211) hx hb d_Mo_tell_104 (by decide) (fun c_12 => ?_) (fun c_12 => ?_)
            · rw [if_neg c_12] at hR hk
              refine lv_aload_n hx hb d_Mo_tell_211 rfl (lv_at hl 2 rfl) ?_
              refine gt hC hB _ lkM_o rfl i_Mo 1 (by decide) rfl kw_892 rfl d_Mo_tell_212 ?_
              refine lv_iload hx hb d_Mo_tell_215 (lv_at hl 0 rfl) ?_
              refine lv_iconst (v := 3) hx hb d_Mo_tell_217 (by decide) ?_
              refine lv_iadd hx hb d_Mo_tell_218 ?_
              refine lv_lload hx hb d_Mo_tell_219 (lv_at hl 7 rfl) ?_
              refine as_l rfl hC hB _ 1 (lkM_l (by decide : 0 < 4)) rfl (of_eq_true (andL hk)) d_Mo_tell_221 (ws' := wsM G cI cL (wL (m_Mo_begin ((m_Mo_pathOf (wn ((m_Mo_isPage τ x1).2) 0 0) x1).2)) 0 (((m_Mo_find ((m_Mo_pathOf (wn ((m_Mo_isPage τ x1).2) 0 0) x1).2) x0 x2 x3 ((m_Mo_pathOf (wn ((m_Mo_isPage τ x1).2) 0 0) x1).1)) + 3).toNatClampNeg) x4) rest) (setM_l (by decide : 0 < 4) _ _) (fun H locs hB => ?_)
              replace hk := andR hk
              refine lv_aload_n hx hb d_Mo_tell_222 rfl (lv_at hl 2 rfl) ?_
              refine kV hC hB _ lkM_o rfl (c_Mo_done (wL (m_Mo_begin ((m_Mo_pathOf (wn ((m_Mo_isPage τ x1).2) 0 0) x1).2)) 0 (((m_Mo_find ((m_Mo_pathOf (wn ((m_Mo_isPage τ x1).2) 0 0) x1).2) x0 x2 x3 ((m_Mo_pathOf (wn ((m_Mo_isPage τ x1).2) 0 0) x1).1)) + 3).toNatClampNeg) x4)  (andL hk)) allw_ok mf_Mo_done kw_971 ks_31 kw_969 ⟨rfl, rfl, Nat.le_of_ble_eq_true rfl, Nat.le_of_ble_eq_true rfl⟩ rfl rfl hl.1 (Nat.le_of_ble_eq_true rfl) d_Mo_tell_223 ⟨Nat.le_of_ble_eq_true rfl, Nat.le_of_ble_eq_true rfl⟩ (roK fun H locs hB => ?_)
              replace hk := andR hk
              refine lv_iconst (v := 1) hx hb d_Mo_tell_226 (by decide) ?_
              obtain ⟨rfl, rfl⟩ := Prod.mk.inj hR
              exact rz (b := true) hC hB rfl d_Mo_tell_227
            · rw [if_pos c_12] at hR hk
              refine lv_sipush (v := 2682) hx hb d_Mo_tell_107 (by decide) ?_
              refine lv_bipush (v := 29) hx hb d_Mo_tell_110 (by decide) ?_
              refine lv_aload_n hx hb d_Mo_tell_112 rfl (lv_at hl 2 rfl) ?_
              refine lv_iconst (v := 4) hx hb d_Mo_tell_113 (by decide) ?_
              refine kV hC hB _ lkM_o rfl (c_Mo_count (m_Mo_begin ((m_Mo_pathOf (wn ((m_Mo_isPage τ x1).2) 0 0) x1).2))  4 (andL hk)) allw_ok mf_Mo_count kw_963 ks_29 kw_961 ⟨rfl, rfl, Nat.le_of_ble_eq_true rfl, Nat.le_of_ble_eq_true rfl⟩ rfl rfl hl.1 (Nat.le_of_ble_eq_true rfl) d_Mo_tell_114 ⟨Nat.le_of_ble_eq_true rfl, Nat.le_of_ble_eq_true rfl⟩ (roK fun H locs hB => ?_)
              replace hk := andR hk
              refine lv_imul hx hb d_Mo_tell_117 ?_
              refine lv_iadd hx hb d_Mo_tell_118 ?_
              refine lv_istore (lv' := [(8, .int (2682 + (29 * (m_Mo_count (m_Mo_begin ((m_Mo_pathOf (wn ((m_Mo_isPage τ x1).2) 0 0) x1).2)) 4)))), (7, .int ((m_Mo_pathOf (wn ((m_Mo_isPage τ x1).2) 0 0) x1).1)), (0, .ref (G 4 0)), (1, .int x0), (2, .int x1), (3, .int x2), (4, .int x3), (5, .long x4)]) hx hb d_Mo_tell_119 hl (by decide) rfl (fun ls hl => ?_)
              refine lv_aload_n hx hb d_Mo_tell_121 rfl (lv_at hl 2 rfl) ?_
              refine gt hC hB _ lkM_o rfl i_Mo 1 (by decide) rfl kw_892 rfl d_Mo_tell_122 ?_
              refine lv_iload hx hb d_Mo_tell_125 (lv_at hl 0 rfl) ?_
              refine lv_iload_n hx hb d_Mo_tell_127 rfl (lv_at hl 3 rfl) ?_
              refine lv_i2l hx hb d_Mo_tell_128 rfl ?_
              refine as_l rfl hC hB _ 1 (lkM_l (by decide : 0 < 4)) rfl (of_eq_true (andL hk)) d_Mo_tell_129 (ws' := wsM G cI cL (wL (m_Mo_begin ((m_Mo_pathOf (wn ((m_Mo_isPage τ x1).2) 0 0) x1).2)) 0 ((2682 + (29 * (m_Mo_count (m_Mo_begin ((m_Mo_pathOf (wn ((m_Mo_isPage τ x1).2) 0 0) x1).2)) 4))).toNatClampNeg) x0.toInt64) rest) (setM_l (by decide : 0 < 4) _ _) (fun H locs hB => ?_)
              replace hk := andR hk
              refine lv_aload_n hx hb d_Mo_tell_130 rfl (lv_at hl 2 rfl) ?_
              refine gt hC hB _ lkM_o rfl i_Mo 1 (by decide) rfl kw_892 rfl d_Mo_tell_131 ?_
              refine lv_iload hx hb d_Mo_tell_134 (lv_at hl 0 rfl) ?_
              refine lv_iconst (v := 1) hx hb d_Mo_tell_136 (by decide) ?_
              refine lv_iadd hx hb d_Mo_tell_137 ?_
              refine lv_iload_n hx hb d_Mo_tell_138 rfl (lv_at hl 5 rfl) ?_
              refine lv_i2l hx hb d_Mo_tell_139 rfl ?_
              refine as_l rfl hC hB _ 1 (lkM_l (by decide : 0 < 4)) rfl (of_eq_true (andL hk)) d_Mo_tell_140 (ws' := wsM G cI cL (wL (wL (m_Mo_begin ((m_Mo_pathOf (wn ((m_Mo_isPage τ x1).2) 0 0) x1).2)) 0 ((2682 + (29 * (m_Mo_count (m_Mo_begin ((m_Mo_pathOf (wn ((m_Mo_isPage τ x1).2) 0 0) x1).2)) 4))).toNatClampNeg) x0.toInt64) 0 (((2682 + (29 * (m_Mo_count (m_Mo_begin ((m_Mo_pathOf (wn ((m_Mo_isPage τ x1).2) 0 0) x1).2)) 4))) + 1).toNatClampNeg) x2.toInt64) rest) (setM_l (by decide : 0 < 4) _ _) (fun H locs hB => ?_)
              replace hk := andR hk
              refine lv_aload_n hx hb d_Mo_tell_141 rfl (lv_at hl 2 rfl) ?_
              refine gt hC hB _ lkM_o rfl i_Mo 1 (by decide) rfl kw_892 rfl d_Mo_tell_142 ?_
              refine lv_iload hx hb d_Mo_tell_145 (lv_at hl 0 rfl) ?_
              refine lv_iconst (v := 2) hx hb d_Mo_tell_147 (by decide) ?_
              refine lv_iadd hx hb d_Mo_tell_148 ?_
              refine lv_iload hx hb d_Mo_tell_149 (lv_at hl 6 rfl) ?_
              refine lv_i2l hx hb d_Mo_tell_151 rfl ?_
              refine as_l rfl hC hB _ 1 (lkM_l (by decide : 0 < 4)) rfl (of_eq_true (andL hk)) d_Mo_tell_152 (ws' := wsM G cI cL (wL (wL (wL (m_Mo_begin ((m_Mo_pathOf (wn ((m_Mo_isPage τ x1).2) 0 0) x1).2)) 0 ((2682 + (29 * (m_Mo_count (m_Mo_begin ((m_Mo_pathOf (wn ((m_Mo_isPage τ x1).2) 0 0) x1).2)) 4))).toNatClampNeg) x0.toInt64) 0 (((2682 + (29 * (m_Mo_count (m_Mo_begin ((m_Mo_pathOf (wn ((m_Mo_isPage τ x1).2) 0 0) x1).2)) 4))) + 1).toNatClampNeg) x2.toInt64) 0 (((2682 + (29 * (m_Mo_count (m_Mo_begin ((m_Mo_pathOf (wn ((m_Mo_isPage τ x1).2) 0 0) x1).2)) 4))) + 2).toNatClampNeg) x3.toInt64) rest) (setM_l (by decide : 0 < 4) _ _) (fun H locs hB => ?_)
              replace hk := andR hk
              refine lv_aload_n hx hb d_Mo_tell_153 rfl (lv_at hl 2 rfl) ?_
              refine gt hC hB _ lkM_o rfl i_Mo 1 (by decide) rfl kw_892 rfl d_Mo_tell_154 ?_
              refine lv_iload hx hb d_Mo_tell_157 (lv_at hl 0 rfl) ?_
              refine lv_iconst (v := 4) hx hb d_Mo_tell_159 (by decide) ?_
              refine lv_iadd hx hb d_Mo_tell_160 ?_
              refine lv_iload hx hb d_Mo_tell_161 (lv_at hl 1 rfl) ?_
              refine lv_i2l hx hb d_Mo_tell_163 rfl ?_
              refine as_l rfl hC hB _ 1 (lkM_l (by decide : 0 < 4)) rfl (of_eq_true (andL hk)) d_Mo_tell_164 (ws' := wsM G cI cL (wL (wL (wL (wL (m_Mo_begin ((m_Mo_pathOf (wn ((m_Mo_isPage τ x1).2) 0 0) x1).2)) 0 ((2682 + (29 * (m_Mo_count (m_Mo_begin ((m_Mo_pathOf (wn ((m_Mo_isPage τ x1).2) 0 0) x1).2)) 4))).toNatClampNeg) x0.toInt64) 0 (((2682 + (29 * (m_Mo_count (m_Mo_begin ((m_Mo_pathOf (wn ((m_Mo_isPage τ x1).2) 0 0) x1).2)) 4))) + 1).toNatClampNeg) x2.toInt64) 0 (((2682 + (29 * (m_Mo_count (m_Mo_begin ((m_Mo_pathOf (wn ((m_Mo_isPage τ x1).2) 0 0) x1).2)) 4))) + 2).toNatClampNeg) x3.toInt64) 0 (((2682 + (29 * (m_Mo_count (m_Mo_begin ((m_Mo_pathOf (wn ((m_Mo_isPage τ x1).2) 0 0) x1).2)) 4))) + 4).toNatClampNeg) (((m_Mo_pathOf (wn ((m_Mo_isPage τ x1).2) 0 0) x1).1).toInt64)) rest) (setM_l (by decide : 0 < 4) _ _) (fun H locs hB => ?_)
              replace hk := andR hk
              refine lv_iconst (v := 0) hx hb d_Mo_tell_165 (by decide) ?_
              refine lv_istore (lv' := [(9, .int 0), (8, .int (2682 + (29 * (m_Mo_count (m_Mo_begin ((m_Mo_pathOf (wn ((m_Mo_isPage τ x1).2) 0 0) x1).2)) 4)))), (7, .int ((m_Mo_pathOf (wn ((m_Mo_isPage τ x1).2) 0 0) x1).1)), (0, .ref (G 4 0)), (1, .int x0), (2, .int x1), (3, .int x2), (4, .int x3), (5, .long x4)]) hx hb d_Mo_tell_166 hl (by decide) rfl (fun ls hl => ?_)
              exact w_Mo_tell_168   hC (((m_Mo_pathOf (wn ((m_Mo_isPage τ x1).2) 0 0) x1).1).toNatClampNeg + 1) (wL (wL (wL (wL (m_Mo_begin ((m_Mo_pathOf (wn ((m_Mo_isPage τ x1).2) 0 0) x1).2)) 0 ((2682 + (29 * (m_Mo_count (m_Mo_begin ((m_Mo_pathOf (wn ((m_Mo_isPage τ x1).2) 0 0) x1).2)) 4))).toNatClampNeg) x0.toInt64) 0 (((2682 + (29 * (m_Mo_count (m_Mo_begin ((m_Mo_pathOf (wn ((m_Mo_isPage τ x1).2) 0 0) x1).2)) 4))) + 1).toNatClampNeg) x2.toInt64) 0 (((2682 + (29 * (m_Mo_count (m_Mo_begin ((m_Mo_pathOf (wn ((m_Mo_isPage τ x1).2) 0 0) x1).2)) 4))) + 2).toNatClampNeg) x3.toInt64) 0 (((2682 + (29 * (m_Mo_count (m_Mo_begin ((m_Mo_pathOf (wn ((m_Mo_isPage τ x1).2) 0 0) x1).2)) 4))) + 4).toNatClampNeg) (((m_Mo_pathOf (wn ((m_Mo_isPage τ x1).2) 0 0) x1).1).toInt64)) x0 x1 x2 x3 x4 ((m_Mo_pathOf (wn ((m_Mo_isPage τ x1).2) 0 0) x1).1) (2682 + (29 * (m_Mo_count (m_Mo_begin ((m_Mo_pathOf (wn ((m_Mo_isPage τ x1).2) 0 0) x1).2)) 4))) 0 (up_init _) hR hk _ _ hB ls (lv_sub hl [3, 4, 5, 6, 7, 8, 2, 1, 0] rfl)
          · rw [if_pos c_11] at hR hk
            refine lv_iconst (v := 0) hx hb d_Mo_tell_95 (by decide) ?_
            obtain ⟨rfl, rfl⟩ := Prod.mk.inj hR
            exact rz (b := false) hC hB rfl d_Mo_tell_96
        · rw [if_pos c_8] at hR hk
          refine lv_aload_n hx hb d_Mo_tell_67 rfl (lv_at hl 2 rfl) ?_
          refine lv_iconst (v := 4) hx hb d_Mo_tell_68 (by decide) ?_
          refine kV hC hB _ lkM_o rfl (c_Mo_count ((m_Mo_pathOf (wn ((m_Mo_isPage τ x1).2) 0 0) x1).2)  4 (andL hk)) allw_ok mf_Mo_count kw_963 ks_29 kw_961 ⟨rfl, rfl, Nat.le_of_ble_eq_true rfl, Nat.le_of_ble_eq_true rfl⟩ rfl rfl hl.1 (Nat.le_of_ble_eq_true rfl) d_Mo_tell_69 ⟨Nat.le_of_ble_eq_true rfl, Nat.le_of_ble_eq_true rfl⟩ (roK fun H locs hB => ?_)
          replace hk := andR hk
          refine lv_bipush (v := 40) hx hb d_Mo_tell_72 (by decide) ?_
          refine lv_icmp_ne (tgt := 97) hx hb d_Mo_tell_74 (by decide) (fun c_9 => ?_) (fun c_9 => ?_)
          · rw [if_neg c_9] at hR hk
            refine lv_aload_n hx hb d_Mo_tell_97 rfl (lv_at hl 2 rfl) ?_
            refine kV hC hB _ lkM_o rfl (c_Mo_begin ((m_Mo_pathOf (wn ((m_Mo_isPage τ x1).2) 0 0) x1).2)  (andL hk)) allw_ok mf_Mo_begin kw_967 ks_30 kw_965 ⟨rfl, rfl, Nat.le_of_ble_eq_true rfl, Nat.le_of_ble_eq_true rfl⟩ rfl rfl hl.1 (Nat.le_of_ble_eq_true rfl) d_Mo_tell_98 ⟨Nat.le_of_ble_eq_true rfl, Nat.le_of_ble_eq_true rfl⟩ (roK fun H locs hB => ?_)
            replace hk := andR hk
            refine lv_iload hx hb d_Mo_tell_101 (lv_at hl 0 rfl) ?_
            refine lv_iconst (v := (-1)) hx hb d_Mo_tell_103 (by decide) ?_
            refine lv_icmp_ne (tgt := 211) hx hb d_Mo_tell_104 (by decide) (fun c_10 => ?_) (fun c_10 => ?_)
            · rw [if_neg c_10] at hR hk
              refine lv_aload_n hx hb d_Mo_tell_211 rfl (lv_at hl 2 rfl) ?_
              refine gt hC hB _ lkM_o rfl i_Mo 1 (by decide) rfl kw_892 rfl d_Mo_tell_212 ?_
              refine lv_iload hx hb d_Mo_tell_215 (lv_at hl 0 rfl) ?_
              refine lv_iconst (v := 3) hx hb d_Mo_tell_217 (by decide) ?_
              refine lv_iadd hx hb d_Mo_tell_218 ?_
              refine lv_lload hx hb d_Mo_tell_219 (lv_at hl 7 rfl) ?_
              refine as_l rfl hC hB _ 1 (lkM_l (by decide : 0 < 4)) rfl (of_eq_true (andL hk)) d_Mo_tell_221 (ws' := wsM G cI cL (wL (m_Mo_begin ((m_Mo_pathOf (wn ((m_Mo_isPage τ x1).2) 0 0) x1).2)) 0 (((m_Mo_find ((m_Mo_pathOf (wn ((m_Mo_isPage τ x1).2) 0 0) x1).2) x0 x2 x3 ((m_Mo_pathOf (wn ((m_Mo_isPage τ x1).2) 0 0) x1).1)) + 3).toNatClampNeg) x4) rest) (setM_l (by decide : 0 < 4) _ _) (fun H locs hB => ?_)
              replace hk := andR hk
              refine lv_aload_n hx hb d_Mo_tell_222 rfl (lv_at hl 2 rfl) ?_
              refine kV hC hB _ lkM_o rfl (c_Mo_done (wL (m_Mo_begin ((m_Mo_pathOf (wn ((m_Mo_isPage τ x1).2) 0 0) x1).2)) 0 (((m_Mo_find ((m_Mo_pathOf (wn ((m_Mo_isPage τ x1).2) 0 0) x1).2) x0 x2 x3 ((m_Mo_pathOf (wn ((m_Mo_isPage τ x1).2) 0 0) x1).1)) + 3).toNatClampNeg) x4)  (andL hk)) allw_ok mf_Mo_done kw_971 ks_31 kw_969 ⟨rfl, rfl, Nat.le_of_ble_eq_true rfl, Nat.le_of_ble_eq_true rfl⟩ rfl rfl hl.1 (Nat.le_of_ble_eq_true rfl) d_Mo_tell_223 ⟨Nat.le_of_ble_eq_true rfl, Nat.le_of_ble_eq_true rfl⟩ (roK fun H locs hB => ?_)
              replace hk := andR hk
              refine lv_iconst (v := 1) hx hb d_Mo_tell_226 (by decide) ?_
              obtain ⟨rfl, rfl⟩ := Prod.mk.inj hR
              exact rz (b := true) hC hB rfl d_Mo_tell_227
            · rw [if_pos c_10] at hR hk
              refine lv_sipush (v := 2682) hx hb d_Mo_tell_107 (by decide) ?_
              refine lv_bipush (v := 29) hx hb d_Mo_tell_110 (by decide) ?_
              refine lv_aload_n hx hb d_Mo_tell_112 rfl (lv_at hl 2 rfl) ?_
              refine lv_iconst (v := 4) hx hb d_Mo_tell_113 (by decide) ?_
              refine kV hC hB _ lkM_o rfl (c_Mo_count (m_Mo_begin ((m_Mo_pathOf (wn ((m_Mo_isPage τ x1).2) 0 0) x1).2))  4 (andL hk)) allw_ok mf_Mo_count kw_963 ks_29 kw_961 ⟨rfl, rfl, Nat.le_of_ble_eq_true rfl, Nat.le_of_ble_eq_true rfl⟩ rfl rfl hl.1 (Nat.le_of_ble_eq_true rfl) d_Mo_tell_114 ⟨Nat.le_of_ble_eq_true rfl, Nat.le_of_ble_eq_true rfl⟩ (roK fun H locs hB => ?_)
              replace hk := andR hk
              refine lv_imul hx hb d_Mo_tell_117 ?_
              refine lv_iadd hx hb d_Mo_tell_118 ?_
              refine lv_istore (lv' := [(8, .int (2682 + (29 * (m_Mo_count (m_Mo_begin ((m_Mo_pathOf (wn ((m_Mo_isPage τ x1).2) 0 0) x1).2)) 4)))), (7, .int ((m_Mo_pathOf (wn ((m_Mo_isPage τ x1).2) 0 0) x1).1)), (0, .ref (G 4 0)), (1, .int x0), (2, .int x1), (3, .int x2), (4, .int x3), (5, .long x4)]) hx hb d_Mo_tell_119 hl (by decide) rfl (fun ls hl => ?_)
              refine lv_aload_n hx hb d_Mo_tell_121 rfl (lv_at hl 2 rfl) ?_
              refine gt hC hB _ lkM_o rfl i_Mo 1 (by decide) rfl kw_892 rfl d_Mo_tell_122 ?_
              refine lv_iload hx hb d_Mo_tell_125 (lv_at hl 0 rfl) ?_
              refine lv_iload_n hx hb d_Mo_tell_127 rfl (lv_at hl 3 rfl) ?_
              refine lv_i2l hx hb d_Mo_tell_128 rfl ?_
              refine as_l rfl hC hB _ 1 (lkM_l (by decide : 0 < 4)) rfl (of_eq_true (andL hk)) d_Mo_tell_129 (ws' := wsM G cI cL (wL (m_Mo_begin ((m_Mo_pathOf (wn ((m_Mo_isPage τ x1).2) 0 0) x1).2)) 0 ((2682 + (29 * (m_Mo_count (m_Mo_begin ((m_Mo_pathOf (wn ((m_Mo_isPage τ x1).2) 0 0) x1).2)) 4))).toNatClampNeg) x0.toInt64) rest) (setM_l (by decide : 0 < 4) _ _) (fun H locs hB => ?_)
              replace hk := andR hk
              refine lv_aload_n hx hb d_Mo_tell_130 rfl (lv_at hl 2 rfl) ?_
              refine gt hC hB _ lkM_o rfl i_Mo 1 (by decide) rfl kw_892 rfl d_Mo_tell_131 ?_
              refine lv_iload hx hb d_Mo_tell_134 (lv_at hl 0 rfl) ?_
              refine lv_iconst (v := 1) hx hb d_Mo_tell_136 (by decide) ?_
              refine lv_iadd hx hb d_Mo_tell_137 ?_
              refine lv_iload_n hx hb d_Mo_tell_138 rfl (lv_at hl 5 rfl) ?_
              refine lv_i2l hx hb d_Mo_tell_139 rfl ?_
              refine as_l rfl hC hB _ 1 (lkM_l (by decide : 0 < 4)) rfl (of_eq_true (andL hk)) d_Mo_tell_140 (ws' := wsM G cI cL (wL (wL (m_Mo_begin ((m_Mo_pathOf (wn ((m_Mo_isPage τ x1).2) 0 0) x1).2)) 0 ((2682 + (29 * (m_Mo_count (m_Mo_begin ((m_Mo_pathOf (wn ((m_Mo_isPage τ x1).2) 0 0) x1).2)) 4))).toNatClampNeg) x0.toInt64) 0 (((2682 + (29 * (m_Mo_count (m_Mo_begin ((m_Mo_pathOf (wn ((m_Mo_isPage τ x1).2) 0 0) x1).2)) 4))) + 1).toNatClampNeg) x2.toInt64) rest) (setM_l (by decide : 0 < 4) _ _) (fun H locs hB => ?_)
              replace hk := andR hk
              refine lv_aload_n hx hb d_Mo_tell_141 rfl (lv_at hl 2 rfl) ?_
              refine gt hC hB _ lkM_o rfl i_Mo 1 (by decide) rfl kw_892 rfl d_Mo_tell_142 ?_
              refine lv_iload hx hb d_Mo_tell_145 (lv_at hl 0 rfl) ?_
              refine lv_iconst (v := 2) hx hb d_Mo_tell_147 (by decide) ?_
              refine lv_iadd hx hb d_Mo_tell_148 ?_
              refine lv_iload hx hb d_Mo_tell_149 (lv_at hl 6 rfl) ?_
              refine lv_i2l hx hb d_Mo_tell_151 rfl ?_
              refine as_l rfl hC hB _ 1 (lkM_l (by decide : 0 < 4)) rfl (of_eq_true (andL hk)) d_Mo_tell_152 (ws' := wsM G cI cL (wL (wL (wL (m_Mo_begin ((m_Mo_pathOf (wn ((m_Mo_isPage τ x1).2) 0 0) x1).2)) 0 ((2682 + (29 * (m_Mo_count (m_Mo_begin ((m_Mo_pathOf (wn ((m_Mo_isPage τ x1).2) 0 0) x1).2)) 4))).toNatClampNeg) x0.toInt64) 0 (((2682 + (29 * (m_Mo_count (m_Mo_begin ((m_Mo_pathOf (wn ((m_Mo_isPage τ x1).2) 0 0) x1).2)) 4))) + 1).toNatClampNeg) x2.toInt64) 0 (((2682 + (29 * (m_Mo_count (m_Mo_begin ((m_Mo_pathOf (wn ((m_Mo_isPage τ x1).2) 0 0) x1).2)) 4))) + 2).toNatClampNeg) x3.toInt64) rest) (setM_l (by decide : 0 < 4) _ _) (fun H locs hB => ?_)
              replace hk := andR hk
              refine lv_aload_n hx hb d_Mo_tell_153 rfl (lv_at hl 2 rfl) ?_
              refine gt hC hB _ lkM_o rfl i_Mo 1 (by decide) rfl kw_892 rfl d_Mo_tell_154 ?_
              refine lv_iload hx hb d_Mo_tell_157 (lv_at hl 0 rfl) ?_
              refine lv_iconst (v := 4) hx hb d_Mo_tell_159 (by decide) ?_
              refine lv_iadd hx hb d_Mo_tell_160 ?_
              refine lv_iload hx hb d_Mo_tell_161 (lv_at hl 1 rfl) ?_
              refine lv_i2l hx hb d_Mo_tell_163 rfl ?_
              refine as_l rfl hC hB _ 1 (lkM_l (by decide : 0 < 4)) rfl (of_eq_true (andL hk)) d_Mo_tell_164 (ws' := wsM G cI cL (wL (wL (wL (wL (m_Mo_begin ((m_Mo_pathOf (wn ((m_Mo_isPage τ x1).2) 0 0) x1).2)) 0 ((2682 + (29 * (m_Mo_count (m_Mo_begin ((m_Mo_pathOf (wn ((m_Mo_isPage τ x1).2) 0 0) x1).2)) 4))).toNatClampNeg) x0.toInt64) 0 (((2682 + (29 * (m_Mo_count (m_Mo_begin ((m_Mo_pathOf (wn ((m_Mo_isPage τ x1).2) 0 0) x1).2)) 4))) + 1).toNatClampNeg) x2.toInt64) 0 (((2682 + (29 * (m_Mo_count (m_Mo_begin ((m_Mo_pathOf (wn ((m_Mo_isPage τ x1).2) 0 0) x1).2)) 4))) + 2).toNatClampNeg) x3.toInt64) 0 (((2682 + (29 * (m_Mo_count (m_Mo_begin ((m_Mo_pathOf (wn ((m_Mo_isPage τ x1).2) 0 0) x1).2)) 4))) + 4).toNatClampNeg) (((m_Mo_pathOf (wn ((m_Mo_isPage τ x1).2) 0 0) x1).1).toInt64)) rest) (setM_l (by decide : 0 < 4) _ _) (fun H locs hB => ?_)
              replace hk := andR hk
              refine lv_iconst (v := 0) hx hb d_Mo_tell_165 (by decide) ?_
              refine lv_istore (lv' := [(9, .int 0), (8, .int (2682 + (29 * (m_Mo_count (m_Mo_begin ((m_Mo_pathOf (wn ((m_Mo_isPage τ x1).2) 0 0) x1).2)) 4)))), (7, .int ((m_Mo_pathOf (wn ((m_Mo_isPage τ x1).2) 0 0) x1).1)), (0, .ref (G 4 0)), (1, .int x0), (2, .int x1), (3, .int x2), (4, .int x3), (5, .long x4)]) hx hb d_Mo_tell_166 hl (by decide) rfl (fun ls hl => ?_)
              exact w_Mo_tell_168   hC (((m_Mo_pathOf (wn ((m_Mo_isPage τ x1).2) 0 0) x1).1).toNatClampNeg + 1) (wL (wL (wL (wL (m_Mo_begin ((m_Mo_pathOf (wn ((m_Mo_isPage τ x1).2) 0 0) x1).2)) 0 ((2682 + (29 * (m_Mo_count (m_Mo_begin ((m_Mo_pathOf (wn ((m_Mo_isPage τ x1).2) 0 0) x1).2)) 4))).toNatClampNeg) x0.toInt64) 0 (((2682 + (29 * (m_Mo_count (m_Mo_begin ((m_Mo_pathOf (wn ((m_Mo_isPage τ x1).2) 0 0) x1).2)) 4))) + 1).toNatClampNeg) x2.toInt64) 0 (((2682 + (29 * (m_Mo_count (m_Mo_begin ((m_Mo_pathOf (wn ((m_Mo_isPage τ x1).2) 0 0) x1).2)) 4))) + 2).toNatClampNeg) x3.toInt64) 0 (((2682 + (29 * (m_Mo_count (m_Mo_begin ((m_Mo_pathOf (wn ((m_Mo_isPage τ x1).2) 0 0) x1).2)) 4))) + 4).toNatClampNeg) (((m_Mo_pathOf (wn ((m_Mo_isPage τ x1).2) 0 0) x1).1).toInt64)) x0 x1 x2 x3 x4 ((m_Mo_pathOf (wn ((m_Mo_isPage τ x1).2) 0 0) x1).1) (2682 + (29 * (m_Mo_count (m_Mo_begin ((m_Mo_pathOf (wn ((m_Mo_isPage τ x1).2) 0 0) x1).2)) 4))) 0 (up_init _) hR hk _ _ hB ls (lv_sub hl [3, 4, 5, 6, 7, 8, 2, 1, 0] rfl)
          · rw [if_pos c_9] at hR hk
            refine lv_goto (tgt := 95) hx hb d_Mo_tell_77 (by decide) ?_
            refine lv_iconst (v := 0) hx hb d_Mo_tell_95 (by decide) ?_
            obtain ⟨rfl, rfl⟩ := Prod.mk.inj hR
            exact rz (b := false) hC hB rfl d_Mo_tell_96

set_option maxHeartbeats 400000 in
set_option maxRecDepth 100000 in
theorem c_Mo_value  (τ : SM)  (x0 : Int32) (x1 : Int32) (x2 : Int32) (x3 : Int64) (hk : (k_Mo_value τ x0 x1 x2 x3) = True) : CM l y_Mo_value b_Mo_value 6 (some .boolean) { frames := 6, cells := 0, slots := 0, locals := 139 } D (tyL cI cL cQ) N0 N0 [.ref (G 4 0), .int x0, .int x1, .int x2, .long x3] (wsM G cI cL τ rest) (some (.int (bi ((m_Mo_value τ x0 x1 x2 x3).1)))) (fun w => w = wsM G cI cL ((m_Mo_value τ x0 x1 x2 x3).2) rest) 0 0 := by
  generalize hR : m_Mo_value τ x0 x1 x2 x3 = RES
  obtain ⟨RV, RS⟩ := RES
  dsimp only
  refine met_of (own := R_Mo) (by decide) rfl nwl_ok ?_
  intro p e s m below meth c hC hin hB
  have hx := hC.1
  have hb := hC.2.1
  have hl := lv_entry ([.ref (G 4 0), .int x0, .int x1, .int x2, .long x3]) (n := 6) (Nat.le_of_ble_eq_true rfl)
  rw [lg_entry_eq]
  generalize (lg_sl ([.ref (G 4 0), .int x0, .int x1, .int x2, .long x3]) ++ List.replicate (6 - (lg_sl ([.ref (G 4 0), .int x0, .int x1, .int x2, .long x3])).length) Slot.unset).toArray = ls at hl ⊢
  have hl : lv_has ls 6 [(0, .ref (G 4 0)), (1, .int x0), (2, .int x1), (3, .int x2), (4, .long x3)] := hl
  rw [m_Mo_value] at hR
  rw [k_Mo_value] at hk
  refine lv_aload_n hx hb d_Mo_value_0 rfl (lv_at hl 0 rfl) ?_
  refine lv_iload_n hx hb d_Mo_value_1 rfl (lv_at hl 1 rfl) ?_
  refine lv_iload_n hx hb d_Mo_value_2 rfl (lv_at hl 2 rfl) ?_
  refine lv_iload_n hx hb d_Mo_value_3 rfl (lv_at hl 3 rfl) ?_
  refine lv_iconst (v := 0) hx hb d_Mo_value_4 (by decide) ?_
  refine lv_lload hx hb d_Mo_value_5 (lv_at hl 4 rfl) ?_
  refine kV hC hB _ lkM_o rfl (c_Mo_tell τ  x0 x1 x2 0 x3 (andL hk)) allw_ok mf_Mo_tell kw_1107 ks_51 kw_1105 ⟨rfl, rfl, Nat.le_of_ble_eq_true rfl, Nat.le_of_ble_eq_true rfl⟩ rfl rfl hl.1 (Nat.le_of_ble_eq_true rfl) d_Mo_value_7 ⟨Nat.le_of_ble_eq_true rfl, Nat.le_of_ble_eq_true rfl⟩ (roK fun H locs hB => ?_)
  replace hk := andR hk
  obtain ⟨rfl, rfl⟩ := Prod.mk.inj hR
  exact rz (b := (m_Mo_tell τ x0 x1 x2 0 x3).1) hC hB rfl d_Mo_value_10

set_option maxHeartbeats 400000 in
set_option maxRecDepth 100000 in
theorem c_Mo_fit  (τ : SM)  (x0 : Int32) (x1 : Int32) (x2 : Int32) (x3 : Bool) (hk : (k_Mo_fit τ x0 x1 x2 x3) = True) : CM l y_Mo_fit b_Mo_fit 5 (some .boolean) { frames := 6, cells := 0, slots := 0, locals := 139 } D (tyL cI cL cQ) N0 N0 [.ref (G 4 0), .int x0, .int x1, .int x2, .int (bi x3)] (wsM G cI cL τ rest) (some (.int (bi ((m_Mo_fit τ x0 x1 x2 x3).1)))) (fun w => w = wsM G cI cL ((m_Mo_fit τ x0 x1 x2 x3).2) rest) 0 0 := by
  generalize hR : m_Mo_fit τ x0 x1 x2 x3 = RES
  obtain ⟨RV, RS⟩ := RES
  dsimp only
  refine met_of (own := R_Mo) (by decide) rfl nwl_ok ?_
  intro p e s m below meth c hC hin hB
  have hx := hC.1
  have hb := hC.2.1
  have hl := lv_entry ([.ref (G 4 0), .int x0, .int x1, .int x2, .int (bi x3)]) (n := 5) (Nat.le_of_ble_eq_true rfl)
  rw [lg_entry_eq]
  generalize (lg_sl ([.ref (G 4 0), .int x0, .int x1, .int x2, .int (bi x3)]) ++ List.replicate (5 - (lg_sl ([.ref (G 4 0), .int x0, .int x1, .int x2, .int (bi x3)])).length) Slot.unset).toArray = ls at hl ⊢
  have hl : lv_has ls 5 [(0, .ref (G 4 0)), (1, .int x0), (2, .int x1), (3, .int x2), (4, .int (bi x3))] := hl
  rw [m_Mo_fit] at hR
  rw [k_Mo_fit] at hk
  refine lv_aload_n hx hb d_Mo_fit_0 rfl (lv_at hl 0 rfl) ?_
  refine lv_iload_n hx hb d_Mo_fit_1 rfl (lv_at hl 1 rfl) ?_
  refine lv_iload_n hx hb d_Mo_fit_2 rfl (lv_at hl 2 rfl) ?_
  refine lv_iload_n hx hb d_Mo_fit_3 rfl (lv_at hl 3 rfl) ?_
  refine lv_iconst (v := 1) hx hb d_Mo_fit_4 (by decide) ?_
  refine lv_iload hx hb d_Mo_fit_5 (lv_at hl 4 rfl) ?_
  refine lv_if_eq (tgt := 14) hx hb d_Mo_fit_7 (by decide) (fun c_1 => ?_) (fun c_1 => ?_)
  · rw [if_pos c_1] at hR hk
    refine lv_lconst (v := 0) hx hb d_Mo_fit_14 (by decide) ?_
    refine kV hC hB _ lkM_o rfl (c_Mo_tell τ  x0 x1 x2 1 0 (andL hk)) allw_ok mf_Mo_tell kw_1107 ks_51 kw_1105 ⟨rfl, rfl, Nat.le_of_ble_eq_true rfl, Nat.le_of_ble_eq_true rfl⟩ rfl rfl hl.1 (Nat.le_of_ble_eq_true rfl) d_Mo_fit_15 ⟨Nat.le_of_ble_eq_true rfl, Nat.le_of_ble_eq_true rfl⟩ (roK fun H locs hB => ?_)
    replace hk := andR hk
    obtain ⟨rfl, rfl⟩ := Prod.mk.inj hR
    exact rz (b := (m_Mo_tell τ x0 x1 x2 1 0).1) hC hB rfl d_Mo_fit_18
  · rw [if_neg c_1] at hR hk
    refine lv_lconst (v := 1) hx hb d_Mo_fit_10 (by decide) ?_
    refine lv_goto (tgt := 15) hx hb d_Mo_fit_11 (by decide) ?_
    refine kV hC hB _ lkM_o rfl (c_Mo_tell τ  x0 x1 x2 1 1 (andL hk)) allw_ok mf_Mo_tell kw_1107 ks_51 kw_1105 ⟨rfl, rfl, Nat.le_of_ble_eq_true rfl, Nat.le_of_ble_eq_true rfl⟩ rfl rfl hl.1 (Nat.le_of_ble_eq_true rfl) d_Mo_fit_15 ⟨Nat.le_of_ble_eq_true rfl, Nat.le_of_ble_eq_true rfl⟩ (roK fun H locs hB => ?_)
    replace hk := andR hk
    obtain ⟨rfl, rfl⟩ := Prod.mk.inj hR
    exact rz (b := (m_Mo_tell τ x0 x1 x2 1 1).1) hC hB rfl d_Mo_fit_18

set_option maxHeartbeats 400000 in
set_option maxRecDepth 100000 in
theorem w_Mo_ask_67 {p : Program} {e : Env} {s : State} {m : MethodId} {args : Array Value} {below : List Frame} {meth : Method} {c : Code} {RES : Int64 × SM} (K : SM → Int32 → Int32 → Int32 → Int32 → Int32 → Int64 × SM) (KP : SM → Int32 → Int32 → Int32 → Int32 → Int32 → Prop)   (hC : cx D classes (tyL cI cL cQ) NWL ALLW N0 p s m args meth c b_Mo_ask 9 (some .long) R_Mo) (hK : ∀ (τ : SM) (v1 : Int32) (v2 : Int32) (v3 : Int32) (v4 : Int32) (v5 : Int32), True → K τ  v1 v2 v3 v4 v5 = RES → (KP τ  v1 v2 v3 v4 v5) = True → ∀ (H : Heap) (locs : List Loc), bd D classes N0 N0 (wsM G cI cL τ rest) s H locs → ∀ (ls : Array Slot), lv_has ls 9 [(0, .ref (G 4 0)), (1, .int v1), (2, .int v2), (3, .int v3), (4, .int v4), (5, .int v5)] → W p l e { frames := 5, cells := 0, slots := 0, locals := 110 } s m args below meth c H locs 0 0 (MQ below (qx D classes N0 N0 (some (.long RES.1)) (fun w => w = wsM G cI cL RES.2 rest)) args s 0 0 (ga N0)) (F0 m 50 ls [])) :
    ∀ (n : Nat) (τ : SM) (v1 : Int32) (v2 : Int32) (v3 : Int32) (v4 : Int32) (v5 : Int32) (v6 : Int32) (v7 : Int32), dnI n v7 → lp_Mo_ask_67 K n τ  v1 v2 v3 v4 v5 v6 v7 = RES → (kl_Mo_ask_67 KP n τ  v1 v2 v3 v4 v5 v6 v7) = True → ∀ (H : Heap) (locs : List Loc), bd D classes N0 N0 (wsM G cI cL τ rest) s H locs → ∀ (ls : Array Slot), lv_has ls 9 [(0, .ref (G 4 0)), (1, .int v1), (2, .int v2), (3, .int v3), (4, .int v4), (5, .int v5), (6, .int v6), (7, .int v7)] → W p l e { frames := 5, cells := 0, slots := 0, locals := 110 } s m args below meth c H locs 0 0 (MQ below (qx D classes N0 N0 (some (.long RES.1)) (fun w => w = wsM G cI cL RES.2 rest)) args s 0 0 (ga N0)) (F0 m 67 ls []) := by
  obtain ⟨RV, RS⟩ := RES
  dsimp only
  have hx := hC.1
  have hb := hC.2.1
  intro n
  induction n with
  | zero =>
    intro τ v1 v2 v3 v4 v5 v6 v7 hI
    exact absurd hI dn_zero
  | succ n ih =>
    intro τ v1 v2 v3 v4 v5 v6 v7 hI hR hk H locs hB ls hl
    rw [lp_Mo_ask_67] at hR
    rw [kl_Mo_ask_67] at hk
    refine lv_iload hx hb d_Mo_ask_67 (lv_at hl 7 rfl) ?_
    refine lv_if_lt (tgt := 107) hx hb d_Mo_ask_69 (by decide) (fun c_1 => ?_) (fun c_1 => ?_)
    · rw [if_pos c_1] at hR hk
      refine lv_aload_n hx hb d_Mo_ask_107 rfl (lv_at hl 0 rfl) ?_
      refine gt hC hB _ lkM_o rfl i_Mo 1 (by decide) rfl kw_892 rfl d_Mo_ask_108 ?_
      refine lv_sipush (v := 2672) hx hb d_Mo_ask_111 (by decide) ?_
      refine lv_iload hx hb d_Mo_ask_114 (lv_at hl 5 rfl) ?_
      refine lv_iadd hx hb d_Mo_ask_116 ?_
      refine va_lald hx hb hC.2.2.2.2.2.2.2.1.1 hB.1 _ 1 (lkM_l (by decide : 0 < 4)) rfl (of_eq_true (andL hk)) d_Mo_ask_117 ?_
      replace hk := andR hk
      refine lv_l2i hx hb d_Mo_ask_118 rfl ?_
      refine lv_istore (lv' := [(5, .int ((yL τ 0 (2672 + v5).toNatClampNeg).toInt32)), (0, .ref (G 4 0)), (1, .int v1), (2, .int v2), (3, .int v3), (4, .int v4), (6, .int v6), (7, .int v7)]) hx hb d_Mo_ask_119 hl (by decide) rfl (fun ls hl => ?_)
      refine lv_goto (tgt := 50) hx hb d_Mo_ask_121 (by decide) ?_
      exact hK τ v1 v2 v3 v4 ((yL τ 0 (2672 + v5).toNatClampNeg).toInt32) (trivial) hR hk _ _ hB ls (lv_sub hl [1, 2, 3, 4, 5, 0] rfl)
    · rw [if_neg c_1] at hR hk
      refine lv_aload_n hx hb d_Mo_ask_72 rfl (lv_at hl 0 rfl) ?_
      refine lv_iload hx hb d_Mo_ask_73 (lv_at hl 5 rfl) ?_
      refine lv_iload_n hx hb d_Mo_ask_75 rfl (lv_at hl 3 rfl) ?_
      refine lv_iload hx hb d_Mo_ask_76 (lv_at hl 4 rfl) ?_
      refine lv_iload hx hb d_Mo_ask_78 (lv_at hl 7 rfl) ?_
      refine kV hC hB _ lkM_o rfl (c_Mo_find τ  v5 v3 v4 v7 (andL hk)) allw_ok mf_Mo_find kw_1123 ks_55 kw_1121 ⟨rfl, rfl, Nat.le_of_ble_eq_true rfl, Nat.le_of_ble_eq_true rfl⟩ rfl rfl hl.1 (Nat.le_of_ble_eq_true rfl) d_Mo_ask_80 ⟨Nat.le_of_ble_eq_true rfl, Nat.le_of_ble_eq_true rfl⟩ (roK fun H locs hB => ?_)
      replace hk := andR hk
      refine lv_istore (lv' := [(8, .int (m_Mo_find τ v5 v3 v4 v7)), (0, .ref (G 4 0)), (1, .int v1), (2, .int v2), (3, .int v3), (4, .int v4), (5, .int v5), (6, .int v6), (7, .int v7)]) hx hb d_Mo_ask_83 hl (by decide) rfl (fun ls hl => ?_)
      refine lv_iload hx hb d_Mo_ask_85 (lv_at hl 0 rfl) ?_
      refine lv_iconst (v := (-1)) hx hb d_Mo_ask_87 (by decide) ?_
      refine lv_icmp_eq (tgt := 101) hx hb d_Mo_ask_88 (by decide) (fun c_2 => ?_) (fun c_2 => ?_)
      · rw [if_pos c_2] at hR hk
        refine lv_iinc (v := (v7 + (-1))) (lv' := [(7, .int (v7 + (-1))), (8, .int (m_Mo_find τ v5 v3 v4 v7)), (0, .ref (G 4 0)), (1, .int v1), (2, .int v2), (3, .int v3), (4, .int v4), (5, .int v5), (6, .int v6)]) hx hb d_Mo_ask_101 hl (k := 8) rfl rfl (by decide) rfl (fun ls hl => ?_)
        refine lv_goto (tgt := 67) hx hb d_Mo_ask_104 (by decide) ?_
        exact ih τ v1 v2 v3 v4 v5 v6 (v7 + (-1)) (dn_step hI (by assumption)) hR hk _ _ hB ls (lv_sub hl [2, 3, 4, 5, 6, 7, 8, 0] rfl)
      · rw [if_neg c_2] at hR hk
        refine lv_aload_n hx hb d_Mo_ask_91 rfl (lv_at hl 1 rfl) ?_
        refine gt hC hB _ lkM_o rfl i_Mo 1 (by decide) rfl kw_892 rfl d_Mo_ask_92 ?_
        refine lv_iload hx hb d_Mo_ask_95 (lv_at hl 0 rfl) ?_
        refine lv_iconst (v := 3) hx hb d_Mo_ask_97 (by decide) ?_
        refine lv_iadd hx hb d_Mo_ask_98 ?_
        refine va_lald hx hb hC.2.2.2.2.2.2.2.1.1 hB.1 _ 1 (lkM_l (by decide : 0 < 4)) rfl (of_eq_true (andL hk)) d_Mo_ask_99 ?_
        replace hk := andR hk
        obtain ⟨rfl, rfl⟩ := Prod.mk.inj hR
        exact rl hC hB rfl d_Mo_ask_100

set_option maxHeartbeats 400000 in
set_option maxRecDepth 100000 in
theorem w_Mo_ask_50 {p : Program} {e : Env} {s : State} {m : MethodId} {args : Array Value} {below : List Frame} {meth : Method} {c : Code} {RES : Int64 × SM}   (hC : cx D classes (tyL cI cL cQ) NWL ALLW N0 p s m args meth c b_Mo_ask 9 (some .long) R_Mo) :
    ∀ (n : Nat) (τ : SM) (v1 : Int32) (v2 : Int32) (v3 : Int32) (v4 : Int32) (v5 : Int32), True → lp_Mo_ask_50 n τ  v1 v2 v3 v4 v5 = RES → (kl_Mo_ask_50 n τ  v1 v2 v3 v4 v5) = True → ∀ (H : Heap) (locs : List Loc), bd D classes N0 N0 (wsM G cI cL τ rest) s H locs → ∀ (ls : Array Slot), lv_has ls 9 [(0, .ref (G 4 0)), (1, .int v1), (2, .int v2), (3, .int v3), (4, .int v4), (5, .int v5)] → W p l e { frames := 5, cells := 0, slots := 0, locals := 110 } s m args below meth c H locs 0 0 (MQ below (qx D classes N0 N0 (some (.long RES.1)) (fun w => w = wsM G cI cL RES.2 rest)) args s 0 0 (ga N0)) (F0 m 50 ls []) := by
  obtain ⟨RV, RS⟩ := RES
  dsimp only
  have hx := hC.1
  have hb := hC.2.1
  intro n
  induction n with
  | zero =>
    intro τ v1 v2 v3 v4 v5 hI hR hk
    exact False.elim (of_eq_true hk)
  | succ n ih =>
    intro τ v1 v2 v3 v4 v5 hI hR hk H locs hB ls hl
    rw [lp_Mo_ask_50] at hR
    rw [kl_Mo_ask_50] at hk
    refine lv_iload hx hb d_Mo_ask_50 (lv_at hl 5 rfl) ?_
    refine lv_iconst (v := (-1)) hx hb d_Mo_ask_52 (by decide) ?_
    refine lv_icmp_eq (tgt := 124) hx hb d_Mo_ask_53 (by decide) (fun c_1 => ?_) (fun c_1 => ?_)
    · rw [if_pos c_1] at hR hk
      refine lv_iload hx hb d_Mo_ask_124 (lv_at hl 4 rfl) ?_
      refine lv_i2l hx hb d_Mo_ask_126 rfl ?_
      obtain ⟨rfl, rfl⟩ := Prod.mk.inj hR
      exact rl hC hB rfl d_Mo_ask_127
    · rw [if_neg c_1] at hR hk
      refine lv_aload_n hx hb d_Mo_ask_56 rfl (lv_at hl 0 rfl) ?_
      refine lv_iload_n hx hb d_Mo_ask_57 rfl (lv_at hl 2 rfl) ?_
      refine kV hC hB _ lkM_o rfl (c_Mo_pathOf τ  v2 (andL hk)) allw_ok mf_Mo_pathOf kw_1119 ks_54 kw_1117 ⟨rfl, rfl, Nat.le_of_ble_eq_true rfl, Nat.le_of_ble_eq_true rfl⟩ rfl rfl hl.1 (Nat.le_of_ble_eq_true rfl) d_Mo_ask_58 ⟨Nat.le_of_ble_eq_true rfl, Nat.le_of_ble_eq_true rfl⟩ (roK fun H locs hB => ?_)
      replace hk := andR hk
      refine lv_istore (lv' := [(6, .int ((m_Mo_pathOf τ v2).1)), (0, .ref (G 4 0)), (1, .int v1), (2, .int v2), (3, .int v3), (4, .int v4), (5, .int v5)]) hx hb d_Mo_ask_61 hl (by decide) rfl (fun ls hl => ?_)
      refine lv_iload hx hb d_Mo_ask_63 (lv_at hl 0 rfl) ?_
      refine lv_istore (lv' := [(7, .int ((m_Mo_pathOf τ v2).1)), (6, .int ((m_Mo_pathOf τ v2).1)), (0, .ref (G 4 0)), (1, .int v1), (2, .int v2), (3, .int v3), (4, .int v4), (5, .int v5)]) hx hb d_Mo_ask_65 hl (by decide) rfl (fun ls hl => ?_)
      exact w_Mo_ask_67 (lp_Mo_ask_50 n) (kl_Mo_ask_50 n)   hC ih (((m_Mo_pathOf τ v2).1).toNatClampNeg + 2) ((m_Mo_pathOf τ v2).2) v1 v2 v3 v4 v5 ((m_Mo_pathOf τ v2).1) ((m_Mo_pathOf τ v2).1) (dn_init _) hR hk _ _ hB ls (lv_sub hl [2, 3, 4, 5, 6, 7, 1, 0] rfl)

set_option maxHeartbeats 400000 in
set_option maxRecDepth 100000 in
theorem c_Mo_ask  (τ : SM)  (x0 : Int32) (x1 : Int32) (x2 : Int32) (x3 : Int32) (hk : (k_Mo_ask τ x0 x1 x2 x3) = True) : CM l y_Mo_ask b_Mo_ask 9 (some .long) { frames := 5, cells := 0, slots := 0, locals := 110 } D (tyL cI cL cQ) N0 N0 [.ref (G 4 0), .int x0, .int x1, .int x2, .int x3] (wsM G cI cL τ rest) (some (.long ((m_Mo_ask τ x0 x1 x2 x3).1))) (fun w => w = wsM G cI cL ((m_Mo_ask τ x0 x1 x2 x3).2) rest) 0 0 := by
  generalize hR : m_Mo_ask τ x0 x1 x2 x3 = RES
  obtain ⟨RV, RS⟩ := RES
  dsimp only
  refine met_of (own := R_Mo) (by decide) rfl nwl_ok ?_
  intro p e s m below meth c hC hin hB
  have hx := hC.1
  have hb := hC.2.1
  have hl := lv_entry ([.ref (G 4 0), .int x0, .int x1, .int x2, .int x3]) (n := 9) (Nat.le_of_ble_eq_true rfl)
  rw [lg_entry_eq]
  generalize (lg_sl ([.ref (G 4 0), .int x0, .int x1, .int x2, .int x3]) ++ List.replicate (9 - (lg_sl ([.ref (G 4 0), .int x0, .int x1, .int x2, .int x3])).length) Slot.unset).toArray = ls at hl ⊢
  have hl : lv_has ls 9 [(0, .ref (G 4 0)), (1, .int x0), (2, .int x1), (3, .int x2), (4, .int x3)] := hl
  rw [m_Mo_ask] at hR
  rw [k_Mo_ask] at hk
  refine lv_aload_n hx hb d_Mo_ask_0 rfl (lv_at hl 0 rfl) ?_
  refine lv_iload_n hx hb d_Mo_ask_1 rfl (lv_at hl 1 rfl) ?_
  refine lv_iconst (v := (-1)) hx hb d_Mo_ask_2 (by decide) ?_
  refine lv_icmp_eq (tgt := 14) hx hb d_Mo_ask_3 (by decide) (fun c_1 => ?_) (fun c_1 => ?_)
  · rw [if_pos c_1] at hR hk
    refine lv_aload_n hx hb d_Mo_ask_14 rfl (lv_at hl 0 rfl) ?_
    refine lv_iload_n hx hb d_Mo_ask_15 rfl (lv_at hl 2 rfl) ?_
    refine kV hC hB _ lkM_o rfl (c_Mo_isPage τ  x1 (andL hk)) allw_ok mf_Mo_isPage kw_1111 ks_52 kw_1109 ⟨rfl, rfl, Nat.le_of_ble_eq_true rfl, Nat.le_of_ble_eq_true rfl⟩ rfl rfl hl.1 (Nat.le_of_ble_eq_true rfl) d_Mo_ask_16 ⟨Nat.le_of_ble_eq_true rfl, Nat.le_of_ble_eq_true rfl⟩ (roK fun H locs hB => ?_)
    replace hk := andR hk
    refine lv_if_eq (tgt := 34) hx hb d_Mo_ask_19 (by decide) (fun c_2 => ?_) (fun c_2 => ?_)
    · rw [if_pos c_2] at hR hk
      refine lv_iconst (v := 1) hx hb d_Mo_ask_34 (by decide) ?_
      refine pt (ty := .int) rfl hC hB _ lkM_o rfl i_Mo t_Mo t_Mo_ok n_Mo 0 (by decide) rfl rfl kw_891 (by decide +kernel) rfl rfl (Nat.le_of_ble_eq_true rfl) d_Mo_ask_35 (ws' := wsM G cI cL (wn ((m_Mo_isPage τ x1).2) 0 1) rest) setM_n0 (fun H locs hB => ?_)
      refine lv_aload_n hx hb d_Mo_ask_38 rfl (lv_at hl 0 rfl) ?_
      refine gt (v := .int 1) hC hB _ lkM_o rfl i_Mo 0 (by decide) rfl kw_891 rfl d_Mo_ask_39 ?_
      refine lv_if_eq (tgt := 47) hx hb d_Mo_ask_42 (by decide) (fun c_3 => absurd c_3 (by decide)) (fun c_3 => ?_)
      refine lv_lconst (v := 0) hx hb d_Mo_ask_45 (by decide) ?_
      obtain ⟨rfl, rfl⟩ := Prod.mk.inj hR
      exact rl hC hB rfl d_Mo_ask_46
    · rw [if_neg c_2] at hR hk
      refine lv_aload_n hx hb d_Mo_ask_22 rfl (lv_at hl 0 rfl) ?_
      refine lv_iload_n hx hb d_Mo_ask_23 rfl (lv_at hl 3 rfl) ?_
      refine kV hC hB _ lkM_o rfl (c_Mo_isPart ((m_Mo_isPage τ x1).2)  x2 (andL hk)) allw_ok mf_Mo_isPart kw_1063 ks_44 kw_1061 ⟨rfl, rfl, Nat.le_of_ble_eq_true rfl, Nat.le_of_ble_eq_true rfl⟩ rfl rfl hl.1 (Nat.le_of_ble_eq_true rfl) d_Mo_ask_24 ⟨Nat.le_of_ble_eq_true rfl, Nat.le_of_ble_eq_true rfl⟩ (roK fun H locs hB => ?_)
      replace hk := andR hk
      refine lv_if_eq (tgt := 34) hx hb d_Mo_ask_27 (by decide) (fun c_4 => ?_) (fun c_4 => ?_)
      · rw [if_pos c_4] at hR hk
        refine lv_iconst (v := 1) hx hb d_Mo_ask_34 (by decide) ?_
        refine pt (ty := .int) rfl hC hB _ lkM_o rfl i_Mo t_Mo t_Mo_ok n_Mo 0 (by decide) rfl rfl kw_891 (by decide +kernel) rfl rfl (Nat.le_of_ble_eq_true rfl) d_Mo_ask_35 (ws' := wsM G cI cL (wn ((m_Mo_isPage τ x1).2) 0 1) rest) setM_n0 (fun H locs hB => ?_)
        refine lv_aload_n hx hb d_Mo_ask_38 rfl (lv_at hl 0 rfl) ?_
        refine gt (v := .int 1) hC hB _ lkM_o rfl i_Mo 0 (by decide) rfl kw_891 rfl d_Mo_ask_39 ?_
        refine lv_if_eq (tgt := 47) hx hb d_Mo_ask_42 (by decide) (fun c_5 => absurd c_5 (by decide)) (fun c_5 => ?_)
        refine lv_lconst (v := 0) hx hb d_Mo_ask_45 (by decide) ?_
        obtain ⟨rfl, rfl⟩ := Prod.mk.inj hR
        exact rl hC hB rfl d_Mo_ask_46
      · rw [if_neg c_4] at hR hk
        refine lv_iconst (v := 0) hx hb d_Mo_ask_30 (by decide) ?_
        refine lv_goto (tgt := 35) hx hb d_Mo_ask_31 (by decide) ?_
        refine pt (ty := .int) rfl hC hB _ lkM_o rfl i_Mo t_Mo t_Mo_ok n_Mo 0 (by decide) rfl rfl kw_891 (by decide +kernel) rfl rfl (Nat.le_of_ble_eq_true rfl) d_Mo_ask_35 (ws' := wsM G cI cL (wn ((m_Mo_isPage τ x1).2) 0 0) rest) setM_n0 (fun H locs hB => ?_)
        refine lv_aload_n hx hb d_Mo_ask_38 rfl (lv_at hl 0 rfl) ?_
        refine gt (v := .int 0) hC hB _ lkM_o rfl i_Mo 0 (by decide) rfl kw_891 rfl d_Mo_ask_39 ?_
        refine lv_if_eq (tgt := 47) hx hb d_Mo_ask_42 (by decide) (fun c_6 => ?_) (fun c_6 => absurd c_6 (by decide))
        refine lv_iload_n hx hb d_Mo_ask_47 rfl (lv_at hl 1 rfl) ?_
        refine lv_istore (lv' := [(5, .int x0), (0, .ref (G 4 0)), (1, .int x0), (2, .int x1), (3, .int x2), (4, .int x3)]) hx hb d_Mo_ask_48 hl (by decide) rfl (fun ls hl => ?_)
        exact w_Mo_ask_50   hC 12 (wn ((m_Mo_isPage τ x1).2) 0 0) x0 x1 x2 x3 x0 (trivial) hR hk _ _ hB ls (lv_sub hl [1, 2, 3, 4, 5, 0] rfl)
  · rw [if_neg c_1] at hR hk
    refine lv_aload_n hx hb d_Mo_ask_6 rfl (lv_at hl 0 rfl) ?_
    refine lv_iload_n hx hb d_Mo_ask_7 rfl (lv_at hl 1 rfl) ?_
    refine kV hC hB _ lkM_o rfl (c_Mo_isVariant τ  x0 (andL hk)) allw_ok mf_Mo_isVariant kw_1099 ks_50 kw_1097 ⟨rfl, rfl, Nat.le_of_ble_eq_true rfl, Nat.le_of_ble_eq_true rfl⟩ rfl rfl hl.1 (Nat.le_of_ble_eq_true rfl) d_Mo_ask_8 ⟨Nat.le_of_ble_eq_true rfl, Nat.le_of_ble_eq_true rfl⟩ (roK fun H locs hB => ?_)
    replace hk := andR hk
    refine lv_if_eq (tgt := 34) hx hb d_Mo_ask_11 (by decide) (fun c_7 => ?_) (fun c_7 => ?_)
    · rw [if_pos c_7] at hR hk
      refine lv_iconst (v := 1) hx hb d_Mo_ask_34 (by decide) ?_
      refine pt (ty := .int) rfl hC hB _ lkM_o rfl i_Mo t_Mo t_Mo_ok n_Mo 0 (by decide) rfl rfl kw_891 (by decide +kernel) rfl rfl (Nat.le_of_ble_eq_true rfl) d_Mo_ask_35 (ws' := wsM G cI cL (wn τ 0 1) rest) setM_n0 (fun H locs hB => ?_)
      refine lv_aload_n hx hb d_Mo_ask_38 rfl (lv_at hl 0 rfl) ?_
      refine gt (v := .int 1) hC hB _ lkM_o rfl i_Mo 0 (by decide) rfl kw_891 rfl d_Mo_ask_39 ?_
      refine lv_if_eq (tgt := 47) hx hb d_Mo_ask_42 (by decide) (fun c_8 => absurd c_8 (by decide)) (fun c_8 => ?_)
      refine lv_lconst (v := 0) hx hb d_Mo_ask_45 (by decide) ?_
      obtain ⟨rfl, rfl⟩ := Prod.mk.inj hR
      exact rl hC hB rfl d_Mo_ask_46
    · rw [if_neg c_7] at hR hk
      refine lv_aload_n hx hb d_Mo_ask_14 rfl (lv_at hl 0 rfl) ?_
      refine lv_iload_n hx hb d_Mo_ask_15 rfl (lv_at hl 2 rfl) ?_
      refine kV hC hB _ lkM_o rfl (c_Mo_isPage τ  x1 (andL hk)) allw_ok mf_Mo_isPage kw_1111 ks_52 kw_1109 ⟨rfl, rfl, Nat.le_of_ble_eq_true rfl, Nat.le_of_ble_eq_true rfl⟩ rfl rfl hl.1 (Nat.le_of_ble_eq_true rfl) d_Mo_ask_16 ⟨Nat.le_of_ble_eq_true rfl, Nat.le_of_ble_eq_true rfl⟩ (roK fun H locs hB => ?_)
      replace hk := andR hk
      refine lv_if_eq (tgt := 34) hx hb d_Mo_ask_19 (by decide) (fun c_9 => ?_) (fun c_9 => ?_)
      · rw [if_pos c_9] at hR hk
        refine lv_iconst (v := 1) hx hb d_Mo_ask_34 (by decide) ?_
        refine pt (ty := .int) rfl hC hB _ lkM_o rfl i_Mo t_Mo t_Mo_ok n_Mo 0 (by decide) rfl rfl kw_891 (by decide +kernel) rfl rfl (Nat.le_of_ble_eq_true rfl) d_Mo_ask_35 (ws' := wsM G cI cL (wn ((m_Mo_isPage τ x1).2) 0 1) rest) setM_n0 (fun H locs hB => ?_)
        refine lv_aload_n hx hb d_Mo_ask_38 rfl (lv_at hl 0 rfl) ?_
        refine gt (v := .int 1) hC hB _ lkM_o rfl i_Mo 0 (by decide) rfl kw_891 rfl d_Mo_ask_39 ?_
        refine lv_if_eq (tgt := 47) hx hb d_Mo_ask_42 (by decide) (fun c_10 => absurd c_10 (by decide)) (fun c_10 => ?_)
        refine lv_lconst (v := 0) hx hb d_Mo_ask_45 (by decide) ?_
        obtain ⟨rfl, rfl⟩ := Prod.mk.inj hR
        exact rl hC hB rfl d_Mo_ask_46
      · rw [if_neg c_9] at hR hk
        refine lv_aload_n hx hb d_Mo_ask_22 rfl (lv_at hl 0 rfl) ?_
        refine lv_iload_n hx hb d_Mo_ask_23 rfl (lv_at hl 3 rfl) ?_
        refine kV hC hB _ lkM_o rfl (c_Mo_isPart ((m_Mo_isPage τ x1).2)  x2 (andL hk)) allw_ok mf_Mo_isPart kw_1063 ks_44 kw_1061 ⟨rfl, rfl, Nat.le_of_ble_eq_true rfl, Nat.le_of_ble_eq_true rfl⟩ rfl rfl hl.1 (Nat.le_of_ble_eq_true rfl) d_Mo_ask_24 ⟨Nat.le_of_ble_eq_true rfl, Nat.le_of_ble_eq_true rfl⟩ (roK fun H locs hB => ?_)
        replace hk := andR hk
        refine lv_if_eq (tgt := 34) hx hb d_Mo_ask_27 (by decide) (fun c_11 => ?_) (fun c_11 => ?_)
        · rw [if_pos c_11] at hR hk
          refine lv_iconst (v := 1) hx hb d_Mo_ask_34 (by decide) ?_
          refine pt (ty := .int) rfl hC hB _ lkM_o rfl i_Mo t_Mo t_Mo_ok n_Mo 0 (by decide) rfl rfl kw_891 (by decide +kernel) rfl rfl (Nat.le_of_ble_eq_true rfl) d_Mo_ask_35 (ws' := wsM G cI cL (wn ((m_Mo_isPage τ x1).2) 0 1) rest) setM_n0 (fun H locs hB => ?_)
          refine lv_aload_n hx hb d_Mo_ask_38 rfl (lv_at hl 0 rfl) ?_
          refine gt (v := .int 1) hC hB _ lkM_o rfl i_Mo 0 (by decide) rfl kw_891 rfl d_Mo_ask_39 ?_
          refine lv_if_eq (tgt := 47) hx hb d_Mo_ask_42 (by decide) (fun c_12 => absurd c_12 (by decide)) (fun c_12 => ?_)
          refine lv_lconst (v := 0) hx hb d_Mo_ask_45 (by decide) ?_
          obtain ⟨rfl, rfl⟩ := Prod.mk.inj hR
          exact rl hC hB rfl d_Mo_ask_46
        · rw [if_neg c_11] at hR hk
          refine lv_iconst (v := 0) hx hb d_Mo_ask_30 (by decide) ?_
          refine lv_goto (tgt := 35) hx hb d_Mo_ask_31 (by decide) ?_
          refine pt (ty := .int) rfl hC hB _ lkM_o rfl i_Mo t_Mo t_Mo_ok n_Mo 0 (by decide) rfl rfl kw_891 (by decide +kernel) rfl rfl (Nat.le_of_ble_eq_true rfl) d_Mo_ask_35 (ws' := wsM G cI cL (wn ((m_Mo_isPage τ x1).2) 0 0) rest) setM_n0 (fun H locs hB => ?_)
          refine lv_aload_n hx hb d_Mo_ask_38 rfl (lv_at hl 0 rfl) ?_
          refine gt (v := .int 0) hC hB _ lkM_o rfl i_Mo 0 (by decide) rfl kw_891 rfl d_Mo_ask_39 ?_
          refine lv_if_eq (tgt := 47) hx hb d_Mo_ask_42 (by decide) (fun c_13 => ?_) (fun c_13 => absurd c_13 (by decide))
          refine lv_iload_n hx hb d_Mo_ask_47 rfl (lv_at hl 1 rfl) ?_
          refine lv_istore (lv' := [(5, .int x0), (0, .ref (G 4 0)), (1, .int x0), (2, .int x1), (3, .int x2), (4, .int x3)]) hx hb d_Mo_ask_48 hl (by decide) rfl (fun ls hl => ?_)
          exact w_Mo_ask_50   hC 12 (wn ((m_Mo_isPage τ x1).2) 0 0) x0 x1 x2 x3 x0 (trivial) hR hk _ _ hB ls (lv_sub hl [1, 2, 3, 4, 5, 0] rfl)

set_option maxHeartbeats 400000 in
set_option maxRecDepth 100000 in
theorem c_Mo_valueOf  (τ : SM)  (x0 : Int32) (x1 : Int32) (x2 : Int32) (hk : (k_Mo_valueOf τ x0 x1 x2) = True) : CM l y_Mo_valueOf b_Mo_valueOf 4 (some .long) { frames := 6, cells := 0, slots := 0, locals := 138 } D (tyL cI cL cQ) N0 N0 [.ref (G 4 0), .int x0, .int x1, .int x2] (wsM G cI cL τ rest) (some (.long ((m_Mo_valueOf τ x0 x1 x2).1))) (fun w => w = wsM G cI cL ((m_Mo_valueOf τ x0 x1 x2).2) rest) 0 0 := by
  generalize hR : m_Mo_valueOf τ x0 x1 x2 = RES
  obtain ⟨RV, RS⟩ := RES
  dsimp only
  refine met_of (own := R_Mo) (by decide) rfl nwl_ok ?_
  intro p e s m below meth c hC hin hB
  have hx := hC.1
  have hb := hC.2.1
  have hl := lv_entry ([.ref (G 4 0), .int x0, .int x1, .int x2]) (n := 4) (Nat.le_of_ble_eq_true rfl)
  rw [lg_entry_eq]
  generalize (lg_sl ([.ref (G 4 0), .int x0, .int x1, .int x2]) ++ List.replicate (4 - (lg_sl ([.ref (G 4 0), .int x0, .int x1, .int x2])).length) Slot.unset).toArray = ls at hl ⊢
  have hl : lv_has ls 4 [(0, .ref (G 4 0)), (1, .int x0), (2, .int x1), (3, .int x2)] := hl
  rw [m_Mo_valueOf] at hR
  rw [k_Mo_valueOf] at hk
  refine lv_aload_n hx hb d_Mo_valueOf_0 rfl (lv_at hl 0 rfl) ?_
  refine lv_iload_n hx hb d_Mo_valueOf_1 rfl (lv_at hl 1 rfl) ?_
  refine lv_iload_n hx hb d_Mo_valueOf_2 rfl (lv_at hl 2 rfl) ?_
  refine lv_iload_n hx hb d_Mo_valueOf_3 rfl (lv_at hl 3 rfl) ?_
  refine lv_iconst (v := 0) hx hb d_Mo_valueOf_4 (by decide) ?_
  refine kV hC hB _ lkM_o rfl (c_Mo_ask τ  x0 x1 x2 0 (andL hk)) allw_ok mf_Mo_ask kw_1135 ks_56 kw_1133 ⟨rfl, rfl, Nat.le_of_ble_eq_true rfl, Nat.le_of_ble_eq_true rfl⟩ rfl rfl hl.1 (Nat.le_of_ble_eq_true rfl) d_Mo_valueOf_5 ⟨Nat.le_of_ble_eq_true rfl, Nat.le_of_ble_eq_true rfl⟩ (roK fun H locs hB => ?_)
  replace hk := andR hk
  obtain ⟨rfl, rfl⟩ := Prod.mk.inj hR
  exact rl hC hB rfl d_Mo_valueOf_8

set_option maxHeartbeats 400000 in
set_option maxRecDepth 100000 in
theorem c_Mo_fitted  (τ : SM)  (x0 : Int32) (x1 : Int32) (x2 : Int32) (hk : (k_Mo_fitted τ x0 x1 x2) = True) : CM l y_Mo_fitted b_Mo_fitted 4 (some .boolean) { frames := 6, cells := 0, slots := 0, locals := 138 } D (tyL cI cL cQ) N0 N0 [.ref (G 4 0), .int x0, .int x1, .int x2] (wsM G cI cL τ rest) (some (.int (bi ((m_Mo_fitted τ x0 x1 x2).1)))) (fun w => w = wsM G cI cL ((m_Mo_fitted τ x0 x1 x2).2) rest) 0 0 := by
  generalize hR : m_Mo_fitted τ x0 x1 x2 = RES
  obtain ⟨RV, RS⟩ := RES
  dsimp only
  refine met_of (own := R_Mo) (by decide) rfl nwl_ok ?_
  intro p e s m below meth c hC hin hB
  have hx := hC.1
  have hb := hC.2.1
  have hl := lv_entry ([.ref (G 4 0), .int x0, .int x1, .int x2]) (n := 4) (Nat.le_of_ble_eq_true rfl)
  rw [lg_entry_eq]
  generalize (lg_sl ([.ref (G 4 0), .int x0, .int x1, .int x2]) ++ List.replicate (4 - (lg_sl ([.ref (G 4 0), .int x0, .int x1, .int x2])).length) Slot.unset).toArray = ls at hl ⊢
  have hl : lv_has ls 4 [(0, .ref (G 4 0)), (1, .int x0), (2, .int x1), (3, .int x2)] := hl
  rw [m_Mo_fitted] at hR
  rw [k_Mo_fitted] at hk
  refine lv_aload_n hx hb d_Mo_fitted_0 rfl (lv_at hl 0 rfl) ?_
  refine lv_iload_n hx hb d_Mo_fitted_1 rfl (lv_at hl 1 rfl) ?_
  refine lv_iload_n hx hb d_Mo_fitted_2 rfl (lv_at hl 2 rfl) ?_
  refine lv_iload_n hx hb d_Mo_fitted_3 rfl (lv_at hl 3 rfl) ?_
  refine lv_iconst (v := 1) hx hb d_Mo_fitted_4 (by decide) ?_
  refine kV hC hB _ lkM_o rfl (c_Mo_ask τ  x0 x1 x2 1 (andL hk)) allw_ok mf_Mo_ask kw_1135 ks_56 kw_1133 ⟨rfl, rfl, Nat.le_of_ble_eq_true rfl, Nat.le_of_ble_eq_true rfl⟩ rfl rfl hl.1 (Nat.le_of_ble_eq_true rfl) d_Mo_fitted_5 ⟨Nat.le_of_ble_eq_true rfl, Nat.le_of_ble_eq_true rfl⟩ (roK fun H locs hB => ?_)
  replace hk := andR hk
  refine lv_lconst (v := 1) hx hb d_Mo_fitted_8 (by decide) ?_
  refine W.lcmp hx hb d_Mo_fitted_9 ?_
  refine lv_if_ne (tgt := 17) hx hb d_Mo_fitted_10 (by decide) (fun c_1 => ?_) (fun c_1 => ?_)
  · rw [if_neg c_1] at hR hk
    refine lv_iconst (v := 0) hx hb d_Mo_fitted_17 (by decide) ?_
    obtain ⟨rfl, rfl⟩ := Prod.mk.inj hR
    exact rz (b := false) hC hB rfl d_Mo_fitted_18
  · rw [if_pos c_1] at hR hk
    refine lv_iconst (v := 1) hx hb d_Mo_fitted_13 (by decide) ?_
    refine lv_goto (tgt := 18) hx hb d_Mo_fitted_14 (by decide) ?_
    obtain ⟨rfl, rfl⟩ := Prod.mk.inj hR
    exact rz (b := true) hC hB rfl d_Mo_fitted_18

set_option maxHeartbeats 400000 in
set_option maxRecDepth 100000 in
theorem c_Mo_pages  (τ : SM)   (hk : (k_Mo_pages τ) = True) : CM l y_Mo_pages b_Mo_pages 1 (some .int) { frames := 4, cells := 0, slots := 0, locals := 89 } D (tyL cI cL cQ) N0 N0 [.ref (G 4 0)] (wsM G cI cL τ rest) (some (.int ((m_Mo_pages τ).1))) (fun w => w = wsM G cI cL ((m_Mo_pages τ).2) rest) 0 0 := by
  generalize hR : m_Mo_pages τ = RES
  obtain ⟨RV, RS⟩ := RES
  dsimp only
  refine met_of (own := R_Mo) (by decide) rfl nwl_ok ?_
  intro p e s m below meth c hC hin hB
  have hx := hC.1
  have hb := hC.2.1
  have hl := lv_entry ([.ref (G 4 0)]) (n := 1) (Nat.le_of_ble_eq_true rfl)
  rw [lg_entry_eq]
  generalize (lg_sl ([.ref (G 4 0)]) ++ List.replicate (1 - (lg_sl ([.ref (G 4 0)])).length) Slot.unset).toArray = ls at hl ⊢
  have hl : lv_has ls 1 [(0, .ref (G 4 0))] := hl
  rw [m_Mo_pages] at hR
  rw [k_Mo_pages] at hk
  refine lv_aload_n hx hb d_Mo_pages_0 rfl (lv_at hl 0 rfl) ?_
  refine lv_iconst (v := 0) hx hb d_Mo_pages_1 (by decide) ?_
  refine pt (ty := .int) rfl hC hB _ lkM_o rfl i_Mo t_Mo t_Mo_ok n_Mo 0 (by decide) rfl rfl kw_891 (by decide +kernel) rfl rfl (Nat.le_of_ble_eq_true rfl) d_Mo_pages_2 (ws' := wsM G cI cL (wn τ 0 0) rest) setM_n0 (fun H locs hB => ?_)
  refine lv_aload_n hx hb d_Mo_pages_5 rfl (lv_at hl 0 rfl) ?_
  refine kV hC hB _ lkM_o rfl (c_Mo_look (wn τ 0 0)  (andL hk)) allw_ok mf_Mo_look kw_1115 ks_53 kw_1113 ⟨rfl, rfl, Nat.le_of_ble_eq_true rfl, Nat.le_of_ble_eq_true rfl⟩ rfl rfl hl.1 (Nat.le_of_ble_eq_true rfl) d_Mo_pages_6 ⟨Nat.le_of_ble_eq_true rfl, Nat.le_of_ble_eq_true rfl⟩ (roK fun H locs hB => ?_)
  replace hk := andR hk
  refine lv_aload_n hx hb d_Mo_pages_9 rfl (lv_at hl 0 rfl) ?_
  refine gt (v := .int (yn (m_Mo_look (wn τ 0 0)) 4)) hC hB _ lkM_o rfl i_Mo 8 (by decide) rfl kw_899 rfl d_Mo_pages_10 ?_
  obtain ⟨rfl, rfl⟩ := Prod.mk.inj hR
  exact ri hC hB rfl d_Mo_pages_13

set_option maxHeartbeats 400000 in
set_option maxRecDepth 100000 in
theorem c_Mo_page  (τ : SM)  (x0 : Int32) (x1 : Int32) (hk : (k_Mo_page τ x0 x1) = True) : CM l y_Mo_page b_Mo_page 3 (some .int) { frames := 5, cells := 0, slots := 0, locals := 110 } D (tyL cI cL cQ) N0 N0 [.ref (G 4 0), .int x0, .int x1] (wsM G cI cL τ rest) (some (.int ((m_Mo_page τ x0 x1).1))) (fun w => w = wsM G cI cL ((m_Mo_page τ x0 x1).2) rest) 0 0 := by
  generalize hR : m_Mo_page τ x0 x1 = RES
  obtain ⟨RV, RS⟩ := RES
  dsimp only
  refine met_of (own := R_Mo) (by decide) rfl nwl_ok ?_
  intro p e s m below meth c hC hin hB
  have hx := hC.1
  have hb := hC.2.1
  have hl := lv_entry ([.ref (G 4 0), .int x0, .int x1]) (n := 3) (Nat.le_of_ble_eq_true rfl)
  rw [lg_entry_eq]
  generalize (lg_sl ([.ref (G 4 0), .int x0, .int x1]) ++ List.replicate (3 - (lg_sl ([.ref (G 4 0), .int x0, .int x1])).length) Slot.unset).toArray = ls at hl ⊢
  have hl : lv_has ls 3 [(0, .ref (G 4 0)), (1, .int x0), (2, .int x1)] := hl
  rw [m_Mo_page] at hR
  rw [k_Mo_page] at hk
  refine lv_aload_n hx hb d_Mo_page_0 rfl (lv_at hl 0 rfl) ?_
  refine lv_aload_n hx hb d_Mo_page_1 rfl (lv_at hl 0 rfl) ?_
  refine lv_iload_n hx hb d_Mo_page_2 rfl (lv_at hl 1 rfl) ?_
  refine kV hC hB _ lkM_o rfl (c_Mo_isPage τ  x0 (andL hk)) allw_ok mf_Mo_isPage kw_1111 ks_52 kw_1109 ⟨rfl, rfl, Nat.le_of_ble_eq_true rfl, Nat.le_of_ble_eq_true rfl⟩ rfl rfl hl.1 (Nat.le_of_ble_eq_true rfl) d_Mo_page_3 ⟨Nat.le_of_ble_eq_true rfl, Nat.le_of_ble_eq_true rfl⟩ (roK fun H locs hB => ?_)
  replace hk := andR hk
  refine lv_if_eq (tgt := 22) hx hb d_Mo_page_6 (by decide) (fun c_1 => ?_) (fun c_1 => ?_)
  · rw [if_pos c_1] at hR hk
    refine lv_iconst (v := 1) hx hb d_Mo_page_22 (by decide) ?_
    refine pt (ty := .int) rfl hC hB _ lkM_o rfl i_Mo t_Mo t_Mo_ok n_Mo 0 (by decide) rfl rfl kw_891 (by decide +kernel) rfl rfl (Nat.le_of_ble_eq_true rfl) d_Mo_page_23 (ws' := wsM G cI cL (wn ((m_Mo_isPage τ x0).2) 0 1) rest) setM_n0 (fun H locs hB => ?_)
    refine lv_aload_n hx hb d_Mo_page_26 rfl (lv_at hl 0 rfl) ?_
    refine gt (v := .int 1) hC hB _ lkM_o rfl i_Mo 0 (by decide) rfl kw_891 rfl d_Mo_page_27 ?_
    refine lv_if_eq (tgt := 35) hx hb d_Mo_page_30 (by decide) (fun c_2 => absurd c_2 (by decide)) (fun c_2 => ?_)
    refine lv_iconst (v := 0) hx hb d_Mo_page_33 (by decide) ?_
    obtain ⟨rfl, rfl⟩ := Prod.mk.inj hR
    exact ri hC hB rfl d_Mo_page_34
  · rw [if_neg c_1] at hR hk
    refine lv_iload_n hx hb d_Mo_page_9 rfl (lv_at hl 2 rfl) ?_
    refine lv_if_lt (tgt := 22) hx hb d_Mo_page_10 (by decide) (fun c_3 => ?_) (fun c_3 => ?_)
    · rw [if_pos c_3] at hR hk
      refine lv_iconst (v := 1) hx hb d_Mo_page_22 (by decide) ?_
      refine pt (ty := .int) rfl hC hB _ lkM_o rfl i_Mo t_Mo t_Mo_ok n_Mo 0 (by decide) rfl rfl kw_891 (by decide +kernel) rfl rfl (Nat.le_of_ble_eq_true rfl) d_Mo_page_23 (ws' := wsM G cI cL (wn ((m_Mo_isPage τ x0).2) 0 1) rest) setM_n0 (fun H locs hB => ?_)
      refine lv_aload_n hx hb d_Mo_page_26 rfl (lv_at hl 0 rfl) ?_
      refine gt (v := .int 1) hC hB _ lkM_o rfl i_Mo 0 (by decide) rfl kw_891 rfl d_Mo_page_27 ?_
      refine lv_if_eq (tgt := 35) hx hb d_Mo_page_30 (by decide) (fun c_4 => absurd c_4 (by decide)) (fun c_4 => ?_)
      refine lv_iconst (v := 0) hx hb d_Mo_page_33 (by decide) ?_
      obtain ⟨rfl, rfl⟩ := Prod.mk.inj hR
      exact ri hC hB rfl d_Mo_page_34
    · rw [if_neg c_3] at hR hk
      refine lv_iload_n hx hb d_Mo_page_13 rfl (lv_at hl 2 rfl) ?_
      refine lv_iconst (v := 4) hx hb d_Mo_page_14 (by decide) ?_
      refine lv_icmp_ge (tgt := 22) hx hb d_Mo_page_15 (by decide) (fun c_5 => ?_) (fun c_5 => ?_)
      · rw [if_pos c_5] at hR hk
        refine lv_iconst (v := 1) hx hb d_Mo_page_22 (by decide) ?_
        refine pt (ty := .int) rfl hC hB _ lkM_o rfl i_Mo t_Mo t_Mo_ok n_Mo 0 (by decide) rfl rfl kw_891 (by decide +kernel) rfl rfl (Nat.le_of_ble_eq_true rfl) d_Mo_page_23 (ws' := wsM G cI cL (wn ((m_Mo_isPage τ x0).2) 0 1) rest) setM_n0 (fun H locs hB => ?_)
        refine lv_aload_n hx hb d_Mo_page_26 rfl (lv_at hl 0 rfl) ?_
        refine gt (v := .int 1) hC hB _ lkM_o rfl i_Mo 0 (by decide) rfl kw_891 rfl d_Mo_page_27 ?_
        refine lv_if_eq (tgt := 35) hx hb d_Mo_page_30 (by decide) (fun c_6 => absurd c_6 (by decide)) (fun c_6 => ?_)
        refine lv_iconst (v := 0) hx hb d_Mo_page_33 (by decide) ?_
        obtain ⟨rfl, rfl⟩ := Prod.mk.inj hR
        exact ri hC hB rfl d_Mo_page_34
      · rw [if_neg c_5] at hR hk
        refine lv_iconst (v := 0) hx hb d_Mo_page_18 (by decide) ?_
        refine lv_goto (tgt := 23) hx hb d_Mo_page_19 (by decide) ?_
        refine pt (ty := .int) rfl hC hB _ lkM_o rfl i_Mo t_Mo t_Mo_ok n_Mo 0 (by decide) rfl rfl kw_891 (by decide +kernel) rfl rfl (Nat.le_of_ble_eq_true rfl) d_Mo_page_23 (ws' := wsM G cI cL (wn ((m_Mo_isPage τ x0).2) 0 0) rest) setM_n0 (fun H locs hB => ?_)
        refine lv_aload_n hx hb d_Mo_page_26 rfl (lv_at hl 0 rfl) ?_
        refine gt (v := .int 0) hC hB _ lkM_o rfl i_Mo 0 (by decide) rfl kw_891 rfl d_Mo_page_27 ?_
        refine lv_if_eq (tgt := 35) hx hb d_Mo_page_30 (by decide) (fun c_7 => ?_) (fun c_7 => absurd c_7 (by decide))
        refine lv_iload_n hx hb d_Mo_page_35 rfl (lv_at hl 2 rfl) ?_
        refine lv_if_ne (tgt := 48) hx hb d_Mo_page_36 (by decide) (fun c_8 => ?_) (fun c_8 => ?_)
        · rw [if_neg c_8] at hR hk
          refine lv_iload_n hx hb d_Mo_page_48 rfl (lv_at hl 2 rfl) ?_
          refine lv_iconst (v := 1) hx hb d_Mo_page_49 (by decide) ?_
          refine lv_icmp_ne (tgt := 62) hx hb d_Mo_page_50 (by decide) (fun c_9 => ?_) (fun c_9 => ?_)
          · rw [if_neg c_9] at hR hk
            refine lv_iload_n hx hb d_Mo_page_62 rfl (lv_at hl 2 rfl) ?_
            refine lv_iconst (v := 2) hx hb d_Mo_page_63 (by decide) ?_
            refine lv_icmp_ne (tgt := 76) hx hb d_Mo_page_64 (by decide) (fun c_10 => ?_) (fun c_10 => ?_)
            · rw [if_neg c_10] at hR hk
              refine lv_aload_n hx hb d_Mo_page_76 rfl (lv_at hl 0 rfl) ?_
              refine gt hC hB _ lkM_o rfl i_Mo 12 (by decide) rfl kw_903 rfl d_Mo_page_77 ?_
              refine lv_iload_n hx hb d_Mo_page_80 rfl (lv_at hl 1 rfl) ?_
              refine va_iald hx hb hC.2.2.2.2.2.2.2.1.1 hB.1 _ 0 (lkM_i (by decide : 3 < 7)) rfl (of_eq_true (andL hk)) d_Mo_page_81 ?_
              replace hk := andR hk
              obtain ⟨rfl, rfl⟩ := Prod.mk.inj hR
              exact ri hC hB rfl d_Mo_page_82
            · rw [if_pos c_10] at hR hk
              refine lv_aload_n hx hb d_Mo_page_67 rfl (lv_at hl 0 rfl) ?_
              refine gt hC hB _ lkM_o rfl i_Mo 11 (by decide) rfl kw_902 rfl d_Mo_page_68 ?_
              refine lv_iload_n hx hb d_Mo_page_71 rfl (lv_at hl 1 rfl) ?_
              refine va_iald hx hb hC.2.2.2.2.2.2.2.1.1 hB.1 _ 0 (lkM_i (by decide : 2 < 7)) rfl (of_eq_true (andL hk)) d_Mo_page_72 ?_
              replace hk := andR hk
              refine lv_goto (tgt := 82) hx hb d_Mo_page_73 (by decide) ?_
              obtain ⟨rfl, rfl⟩ := Prod.mk.inj hR
              exact ri hC hB rfl d_Mo_page_82
          · rw [if_pos c_9] at hR hk
            refine lv_aload_n hx hb d_Mo_page_53 rfl (lv_at hl 0 rfl) ?_
            refine gt hC hB _ lkM_o rfl i_Mo 10 (by decide) rfl kw_901 rfl d_Mo_page_54 ?_
            refine lv_iload_n hx hb d_Mo_page_57 rfl (lv_at hl 1 rfl) ?_
            refine va_iald hx hb hC.2.2.2.2.2.2.2.1.1 hB.1 _ 0 (lkM_i (by decide : 1 < 7)) rfl (of_eq_true (andL hk)) d_Mo_page_58 ?_
            replace hk := andR hk
            refine lv_goto (tgt := 82) hx hb d_Mo_page_59 (by decide) ?_
            obtain ⟨rfl, rfl⟩ := Prod.mk.inj hR
            exact ri hC hB rfl d_Mo_page_82
        · rw [if_pos c_8] at hR hk
          refine lv_aload_n hx hb d_Mo_page_39 rfl (lv_at hl 0 rfl) ?_
          refine gt hC hB _ lkM_o rfl i_Mo 9 (by decide) rfl kw_900 rfl d_Mo_page_40 ?_
          refine lv_iload_n hx hb d_Mo_page_43 rfl (lv_at hl 1 rfl) ?_
          refine va_iald hx hb hC.2.2.2.2.2.2.2.1.1 hB.1 _ 0 (lkM_i (by decide : 0 < 7)) rfl (of_eq_true (andL hk)) d_Mo_page_44 ?_
          replace hk := andR hk
          refine lv_goto (tgt := 82) hx hb d_Mo_page_45 (by decide) ?_
          obtain ⟨rfl, rfl⟩ := Prod.mk.inj hR
          exact ri hC hB rfl d_Mo_page_82

set_option maxHeartbeats 400000 in
set_option maxRecDepth 100000 in
theorem w_Mo_pageOf_6 {p : Program} {e : Env} {s : State} {m : MethodId} {args : Array Value} {below : List Frame} {meth : Method} {c : Code} {RES : Int32}  (τ : SM)  (hC : cx D classes (tyL cI cL cQ) NWL ALLW N1 p s m args meth c b_Mo_pageOf 6 (some .int) R_Mo) :
    ∀ (n : Nat) (v1 : Int64) (v3 : Int32) (v4 : Int32) (v5 : Int32), upI n (yn τ 4) v5 → lp_Mo_pageOf_6 n τ  v1 v3 v4 v5 = RES → (kl_Mo_pageOf_6 n τ  v1 v3 v4 v5) = True → ∀ (H : Heap) (locs : List Loc), bd D classes N0 N1 (wsM G cI cL τ rest) s H locs → ∀ (ls : Array Slot), lv_has ls 6 [(0, .ref (G 4 0)), (1, .long v1), (3, .int v3), (4, .int v4), (5, .int v5)] → W p l e { frames := 0, cells := 0, slots := 0, locals := 0 } s m args below meth c H locs 0 0 (MQ below (qx D classes N0 N1 (some (.int RES)) (fun w => w = wsM G cI cL τ rest)) args s 0 0 (ga N1)) (F0 m 6 ls []) := by
  have hx := hC.1
  have hb := hC.2.1
  intro n
  induction n with
  | zero =>
    intro v1 v3 v4 v5 hI
    exact absurd hI up_zero
  | succ n ih =>
    intro v1 v3 v4 v5 hI hR hk H locs hB ls hl
    rw [lp_Mo_pageOf_6] at hR
    rw [kl_Mo_pageOf_6] at hk
    refine lv_iload hx hb d_Mo_pageOf_6 (lv_at hl 4 rfl) ?_
    refine lv_aload_n hx hb d_Mo_pageOf_8 rfl (lv_at hl 0 rfl) ?_
    refine gt (v := .int (yn τ 4)) hC hB _ lkM_o rfl i_Mo 8 (by decide) rfl kw_899 rfl d_Mo_pageOf_9 ?_
    refine lv_icmp_ge (tgt := 48) hx hb d_Mo_pageOf_12 (by decide) (fun c_1 => ?_) (fun c_1 => ?_)
    · rw [if_pos c_1] at hR hk
      refine lv_iconst (v := (-1)) hx hb d_Mo_pageOf_48 (by decide) ?_
      subst hR
      exact ri hC hB rfl d_Mo_pageOf_49
    · rw [if_neg c_1] at hR hk
      refine lv_aload_n hx hb d_Mo_pageOf_15 rfl (lv_at hl 0 rfl) ?_
      refine gt hC hB _ lkM_o rfl i_Mo 9 (by decide) rfl kw_900 rfl d_Mo_pageOf_16 ?_
      refine lv_iload hx hb d_Mo_pageOf_19 (lv_at hl 4 rfl) ?_
      refine va_iald hx hb hC.2.2.2.2.2.2.2.1.1 hB.1 _ 0 (lkM_i (by decide : 0 < 7)) rfl (of_eq_true (andL hk)) d_Mo_pageOf_21 ?_
      replace hk := andR hk
      refine lv_i2l hx hb d_Mo_pageOf_22 rfl ?_
      refine lv_lload_n hx hb d_Mo_pageOf_23 rfl (lv_at hl 1 rfl) ?_
      refine W.lcmp hx hb d_Mo_pageOf_24 ?_
      refine lv_if_eq (tgt := 31) hx hb d_Mo_pageOf_25 (by decide) (fun c_2 => ?_) (fun c_2 => ?_)
      · rw [if_pos c_2] at hR hk
        refine lv_iload hx hb d_Mo_pageOf_31 (lv_at hl 3 rfl) ?_
        refine lv_if_ne (tgt := 39) hx hb d_Mo_pageOf_33 (by decide) (fun c_3 => ?_) (fun c_3 => ?_)
        · rw [if_neg c_3] at hR hk
          refine lv_iinc (v := (v4 + (-1))) (lv' := [(4, .int (v4 + (-1))), (0, .ref (G 4 0)), (1, .long v1), (3, .int v3), (5, .int v5)]) hx hb d_Mo_pageOf_39 hl (k := 3) rfl rfl (by decide) rfl (fun ls hl => ?_)
          refine lv_iinc (v := (v5 + 1)) (lv' := [(5, .int (v5 + 1)), (4, .int (v4 + (-1))), (0, .ref (G 4 0)), (1, .long v1), (3, .int v3)]) hx hb d_Mo_pageOf_42 hl (k := 4) rfl rfl (by decide) rfl (fun ls hl => ?_)
          refine lv_goto (tgt := 6) hx hb d_Mo_pageOf_45 (by decide) ?_
          exact ih v1 v3 (v4 + (-1)) (v5 + 1) (up_step hI (by assumption)) hR hk _ _ hB ls (lv_sub hl [2, 3, 4, 1, 0] rfl)
        · rw [if_pos c_3] at hR hk
          refine lv_iload hx hb d_Mo_pageOf_36 (lv_at hl 4 rfl) ?_
          subst hR
          exact ri hC hB rfl d_Mo_pageOf_38
      · rw [if_neg c_2] at hR hk
        refine lv_goto (tgt := 42) hx hb d_Mo_pageOf_28 (by decide) ?_
        refine lv_iinc (v := (v5 + 1)) (lv' := [(5, .int (v5 + 1)), (0, .ref (G 4 0)), (1, .long v1), (3, .int v3), (4, .int v4)]) hx hb d_Mo_pageOf_42 hl (k := 4) rfl rfl (by decide) rfl (fun ls hl => ?_)
        refine lv_goto (tgt := 6) hx hb d_Mo_pageOf_45 (by decide) ?_
        exact ih v1 v3 v4 (v5 + 1) (up_step hI (by assumption)) hR hk _ _ hB ls (lv_sub hl [1, 2, 3, 4, 0] rfl)

set_option maxHeartbeats 400000 in
set_option maxRecDepth 100000 in
theorem c_Mo_pageOf  (τ : SM)  (x0 : Int64) (x1 : Int32) (hk : (k_Mo_pageOf τ x0 x1) = True) : CM l y_Mo_pageOf b_Mo_pageOf 6 (some .int) { frames := 0, cells := 0, slots := 0, locals := 0 } D (tyL cI cL cQ) N0 N1 [.ref (G 4 0), .long x0, .int x1] (wsM G cI cL τ rest) (some (.int (m_Mo_pageOf τ x0 x1))) (fun w => w = wsM G cI cL τ rest) 0 0 := by
  generalize hR : m_Mo_pageOf τ x0 x1 = RES
  refine met_of (own := R_Mo) (by decide) rfl nwl_ok ?_
  intro p e s m below meth c hC hin hB
  have hx := hC.1
  have hb := hC.2.1
  have hl := lv_entry ([.ref (G 4 0), .long x0, .int x1]) (n := 6) (Nat.le_of_ble_eq_true rfl)
  rw [lg_entry_eq]
  generalize (lg_sl ([.ref (G 4 0), .long x0, .int x1]) ++ List.replicate (6 - (lg_sl ([.ref (G 4 0), .long x0, .int x1])).length) Slot.unset).toArray = ls at hl ⊢
  have hl : lv_has ls 6 [(0, .ref (G 4 0)), (1, .long x0), (3, .int x1)] := hl
  rw [m_Mo_pageOf] at hR
  rw [k_Mo_pageOf] at hk
  refine lv_iload_n hx hb d_Mo_pageOf_0 rfl (lv_at hl 2 rfl) ?_
  refine lv_istore (lv' := [(4, .int x1), (0, .ref (G 4 0)), (1, .long x0), (3, .int x1)]) hx hb d_Mo_pageOf_1 hl (by decide) rfl (fun ls hl => ?_)
  refine lv_iconst (v := 0) hx hb d_Mo_pageOf_3 (by decide) ?_
  refine lv_istore (lv' := [(5, .int 0), (4, .int x1), (0, .ref (G 4 0)), (1, .long x0), (3, .int x1)]) hx hb d_Mo_pageOf_4 hl (by decide) rfl (fun ls hl => ?_)
  exact w_Mo_pageOf_6  τ  hC ((yn τ 4).toNatClampNeg + 1) x0 x1 x1 0 (up_init _) hR hk _ _ hB ls (lv_sub hl [2, 3, 4, 1, 0] rfl)

set_option maxHeartbeats 400000 in
set_option maxRecDepth 100000 in
theorem w_Mo_unitsOf_30 {p : Program} {e : Env} {s : State} {m : MethodId} {args : Array Value} {below : List Frame} {meth : Method} {c : Code} {RES : Int32 × SM} (K : SM → Int32 → Int32 → Int32 → Int32 × SM) (KP : SM → Int32 → Int32 → Int32 → Prop)   (hC : cx D classes (tyL cI cL cQ) NWL ALLW N0 p s m args meth c b_Mo_unitsOf 6 (some .int) R_Mo) (hK : ∀ (τ : SM) (v1 : Int32) (v2 : Int32) (v3 : Int32), True → K τ  v1 v2 v3 = RES → (KP τ  v1 v2 v3) = True → ∀ (H : Heap) (locs : List Loc), bd D classes N0 N0 (wsM G cI cL τ rest) s H locs → ∀ (ls : Array Slot), lv_has ls 6 [(0, .ref (G 4 0)), (1, .int v1), (2, .int v2), (3, .int v3)] → W p l e { frames := 4, cells := 0, slots := 0, locals := 89 } s m args below meth c H locs 0 0 (MQ below (qx D classes N0 N0 (some (.int RES.1)) (fun w => w = wsM G cI cL RES.2 rest)) args s 0 0 (ga N0)) (F0 m 8 ls [])) :
    ∀ (n : Nat) (τ : SM) (v1 : Int32) (v2 : Int32) (v3 : Int32) (v4 : Int32) (v5 : Int32), upI n (yn τ 4) v5 → lp_Mo_unitsOf_30 K n τ  v1 v2 v3 v4 v5 = RES → (kl_Mo_unitsOf_30 KP n τ  v1 v2 v3 v4 v5) = True → ∀ (H : Heap) (locs : List Loc), bd D classes N0 N0 (wsM G cI cL τ rest) s H locs → ∀ (ls : Array Slot), lv_has ls 6 [(0, .ref (G 4 0)), (1, .int v1), (2, .int v2), (3, .int v3), (4, .int v4), (5, .int v5)] → W p l e { frames := 4, cells := 0, slots := 0, locals := 89 } s m args below meth c H locs 0 0 (MQ below (qx D classes N0 N0 (some (.int RES.1)) (fun w => w = wsM G cI cL RES.2 rest)) args s 0 0 (ga N0)) (F0 m 30 ls []) := by
  obtain ⟨RV, RS⟩ := RES
  dsimp only
  have hx := hC.1
  have hb := hC.2.1
  intro n
  induction n with
  | zero =>
    intro τ v1 v2 v3 v4 v5 hI
    exact absurd hI up_zero
  | succ n ih =>
    intro τ v1 v2 v3 v4 v5 hI hR hk H locs hB ls hl
    rw [lp_Mo_unitsOf_30] at hR
    rw [kl_Mo_unitsOf_30] at hk
    refine lv_iload hx hb d_Mo_unitsOf_30 (lv_at hl 5 rfl) ?_
    refine lv_aload_n hx hb d_Mo_unitsOf_32 rfl (lv_at hl 0 rfl) ?_
    refine gt (v := .int (yn τ 4)) hC hB _ lkM_o rfl i_Mo 8 (by decide) rfl kw_899 rfl d_Mo_unitsOf_33 ?_
    refine lv_icmp_ge (tgt := 84) hx hb d_Mo_unitsOf_36 (by decide) (fun c_1 => ?_) (fun c_1 => ?_)
    · rw [if_pos c_1] at hR hk
      refine lv_iload hx hb d_Mo_unitsOf_84 (lv_at hl 4 rfl) ?_
      refine lv_iload_n hx hb d_Mo_unitsOf_86 rfl (lv_at hl 2 rfl) ?_
      refine lv_icmp_le (tgt := 95) hx hb d_Mo_unitsOf_87 (by decide) (fun c_2 => ?_) (fun c_2 => ?_)
      · rw [if_pos c_2] at hR hk
        refine lv_iload_n hx hb d_Mo_unitsOf_95 rfl (lv_at hl 2 rfl) ?_
        refine lv_istore_n (lv' := [(2, .int v2), (0, .ref (G 4 0)), (1, .int v1), (3, .int v3), (4, .int v4), (5, .int v5)]) hx hb d_Mo_unitsOf_96 rfl hl (by decide) rfl (fun ls hl => ?_)
        refine lv_iinc (v := (v3 + 1)) (lv' := [(3, .int (v3 + 1)), (2, .int v2), (0, .ref (G 4 0)), (1, .int v1), (4, .int v4), (5, .int v5)]) hx hb d_Mo_unitsOf_97 hl (k := 3) rfl rfl (by decide) rfl (fun ls hl => ?_)
        refine lv_goto (tgt := 8) hx hb d_Mo_unitsOf_100 (by decide) ?_
        exact hK τ v1 v2 (v3 + 1) (trivial) hR hk _ _ hB ls (lv_sub hl [2, 3, 1, 0] rfl)
      · rw [if_neg c_2] at hR hk
        refine lv_iload hx hb d_Mo_unitsOf_90 (lv_at hl 4 rfl) ?_
        refine lv_goto (tgt := 96) hx hb d_Mo_unitsOf_92 (by decide) ?_
        refine lv_istore_n (lv' := [(2, .int v4), (0, .ref (G 4 0)), (1, .int v1), (3, .int v3), (4, .int v4), (5, .int v5)]) hx hb d_Mo_unitsOf_96 rfl hl (by decide) rfl (fun ls hl => ?_)
        refine lv_iinc (v := (v3 + 1)) (lv' := [(3, .int (v3 + 1)), (2, .int v4), (0, .ref (G 4 0)), (1, .int v1), (4, .int v4), (5, .int v5)]) hx hb d_Mo_unitsOf_97 hl (k := 3) rfl rfl (by decide) rfl (fun ls hl => ?_)
        refine lv_goto (tgt := 8) hx hb d_Mo_unitsOf_100 (by decide) ?_
        exact hK τ v1 v4 (v3 + 1) (trivial) hR hk _ _ hB ls (lv_sub hl [2, 3, 1, 0] rfl)
    · rw [if_neg c_1] at hR hk
      refine lv_iload hx hb d_Mo_unitsOf_39 (lv_at hl 4 rfl) ?_
      refine lv_aload_n hx hb d_Mo_unitsOf_41 rfl (lv_at hl 0 rfl) ?_
      refine gt hC hB _ lkM_o rfl i_Mo 9 (by decide) rfl kw_900 rfl d_Mo_unitsOf_42 ?_
      refine lv_iload hx hb d_Mo_unitsOf_45 (lv_at hl 5 rfl) ?_
      refine va_iald hx hb hC.2.2.2.2.2.2.2.1.1 hB.1 _ 0 (lkM_i (by decide : 0 < 7)) rfl (of_eq_true (andL hk)) d_Mo_unitsOf_47 ?_
      replace hk := andR hk
      refine lv_i2l hx hb d_Mo_unitsOf_48 rfl ?_
      refine lv_aload_n hx hb d_Mo_unitsOf_49 rfl (lv_at hl 0 rfl) ?_
      refine gt hC hB _ lkM_o rfl i_Mo 1 (by decide) rfl kw_892 rfl d_Mo_unitsOf_50 ?_
      refine lv_sipush (v := 2192) hx hb d_Mo_unitsOf_53 (by decide) ?_
      refine lv_bipush (v := 8) hx hb d_Mo_unitsOf_56 (by decide) ?_
      refine lv_iload_n hx hb d_Mo_unitsOf_58 rfl (lv_at hl 1 rfl) ?_
      refine lv_imul hx hb d_Mo_unitsOf_59 ?_
      refine lv_iadd hx hb d_Mo_unitsOf_60 ?_
      refine lv_iload_n hx hb d_Mo_unitsOf_61 rfl (lv_at hl 3 rfl) ?_
      refine lv_iadd hx hb d_Mo_unitsOf_62 ?_
      refine va_lald hx hb hC.2.2.2.2.2.2.2.1.1 hB.1 _ 1 (lkM_l (by decide : 0 < 4)) rfl (of_eq_true (andL hk)) d_Mo_unitsOf_63 ?_
      replace hk := andR hk
      refine lv_lconst (v := 1) hx hb d_Mo_unitsOf_64 (by decide) ?_
      refine lv_lsub hx hb d_Mo_unitsOf_65 ?_
      refine W.lcmp hx hb d_Mo_unitsOf_66 ?_
      refine lv_if_ne (tgt := 74) hx hb d_Mo_unitsOf_67 (by decide) (fun c_3 => ?_) (fun c_3 => ?_)
      · rw [if_neg c_3] at hR hk
        refine lv_iconst (v := 0) hx hb d_Mo_unitsOf_74 (by decide) ?_
        refine lv_iadd hx hb d_Mo_unitsOf_75 ?_
        refine lv_istore (lv' := [(4, .int (v4 + 0)), (0, .ref (G 4 0)), (1, .int v1), (2, .int v2), (3, .int v3), (5, .int v5)]) hx hb d_Mo_unitsOf_76 hl (by decide) rfl (fun ls hl => ?_)
        refine lv_iinc (v := (v5 + 1)) (lv' := [(5, .int (v5 + 1)), (4, .int (v4 + 0)), (0, .ref (G 4 0)), (1, .int v1), (2, .int v2), (3, .int v3)]) hx hb d_Mo_unitsOf_78 hl (k := 5) rfl rfl (by decide) rfl (fun ls hl => ?_)
        refine lv_goto (tgt := 30) hx hb d_Mo_unitsOf_81 (by decide) ?_
        exact ih τ v1 v2 v3 (v4 + 0) (v5 + 1) (up_step hI (by assumption)) hR hk _ _ hB ls (lv_sub hl [2, 3, 4, 5, 1, 0] rfl)
      · rw [if_pos c_3] at hR hk
        refine lv_iconst (v := 1) hx hb d_Mo_unitsOf_70 (by decide) ?_
        refine lv_goto (tgt := 75) hx hb d_Mo_unitsOf_71 (by decide) ?_
        refine lv_iadd hx hb d_Mo_unitsOf_75 ?_
        refine lv_istore (lv' := [(4, .int (v4 + 1)), (0, .ref (G 4 0)), (1, .int v1), (2, .int v2), (3, .int v3), (5, .int v5)]) hx hb d_Mo_unitsOf_76 hl (by decide) rfl (fun ls hl => ?_)
        refine lv_iinc (v := (v5 + 1)) (lv' := [(5, .int (v5 + 1)), (4, .int (v4 + 1)), (0, .ref (G 4 0)), (1, .int v1), (2, .int v2), (3, .int v3)]) hx hb d_Mo_unitsOf_78 hl (k := 5) rfl rfl (by decide) rfl (fun ls hl => ?_)
        refine lv_goto (tgt := 30) hx hb d_Mo_unitsOf_81 (by decide) ?_
        exact ih τ v1 v2 v3 (v4 + 1) (v5 + 1) (up_step hI (by assumption)) hR hk _ _ hB ls (lv_sub hl [2, 3, 4, 5, 1, 0] rfl)

set_option maxHeartbeats 400000 in
set_option maxRecDepth 100000 in
theorem w_Mo_unitsOf_8 {p : Program} {e : Env} {s : State} {m : MethodId} {args : Array Value} {below : List Frame} {meth : Method} {c : Code} {RES : Int32 × SM}   (hC : cx D classes (tyL cI cL cQ) NWL ALLW N0 p s m args meth c b_Mo_unitsOf 6 (some .int) R_Mo) :
    ∀ (n : Nat) (τ : SM) (v1 : Int32) (v2 : Int32) (v3 : Int32), True → lp_Mo_unitsOf_8 n τ  v1 v2 v3 = RES → (kl_Mo_unitsOf_8 n τ  v1 v2 v3) = True → ∀ (H : Heap) (locs : List Loc), bd D classes N0 N0 (wsM G cI cL τ rest) s H locs → ∀ (ls : Array Slot), lv_has ls 6 [(0, .ref (G 4 0)), (1, .int v1), (2, .int v2), (3, .int v3)] → W p l e { frames := 4, cells := 0, slots := 0, locals := 89 } s m args below meth c H locs 0 0 (MQ below (qx D classes N0 N0 (some (.int RES.1)) (fun w => w = wsM G cI cL RES.2 rest)) args s 0 0 (ga N0)) (F0 m 8 ls []) := by
  obtain ⟨RV, RS⟩ := RES
  dsimp only
  have hx := hC.1
  have hb := hC.2.1
  intro n
  induction n with
  | zero =>
    intro τ v1 v2 v3 hI hR hk
    exact False.elim (of_eq_true hk)
  | succ n ih =>
    intro τ v1 v2 v3 hI hR hk H locs hB ls hl
    rw [lp_Mo_unitsOf_8] at hR
    rw [kl_Mo_unitsOf_8] at hk
    refine lv_iload_n hx hb d_Mo_unitsOf_8 rfl (lv_at hl 3 rfl) ?_
    refine lv_i2l hx hb d_Mo_unitsOf_9 rfl ?_
    refine lv_aload_n hx hb d_Mo_unitsOf_10 rfl (lv_at hl 0 rfl) ?_
    refine gt hC hB _ lkM_o rfl i_Mo 1 (by decide) rfl kw_892 rfl d_Mo_unitsOf_11 ?_
    refine lv_sipush (v := 2162) hx hb d_Mo_unitsOf_14 (by decide) ?_
    refine lv_iload_n hx hb d_Mo_unitsOf_17 rfl (lv_at hl 1 rfl) ?_
    refine lv_iadd hx hb d_Mo_unitsOf_18 ?_
    refine va_lald hx hb hC.2.2.2.2.2.2.2.1.1 hB.1 _ 1 (lkM_l (by decide : 0 < 4)) rfl (of_eq_true (andL hk)) d_Mo_unitsOf_19 ?_
    replace hk := andR hk
    refine W.lcmp hx hb d_Mo_unitsOf_20 ?_
    refine lv_if_ge (tgt := 103) hx hb d_Mo_unitsOf_21 (by decide) (fun c_1 => ?_) (fun c_1 => ?_)
    · rw [if_pos c_1] at hR hk
      refine lv_iload_n hx hb d_Mo_unitsOf_103 rfl (lv_at hl 2 rfl) ?_
      obtain ⟨rfl, rfl⟩ := Prod.mk.inj hR
      exact ri hC hB rfl d_Mo_unitsOf_104
    · rw [if_neg c_1] at hR hk
      refine lv_iconst (v := 0) hx hb d_Mo_unitsOf_24 (by decide) ?_
      refine lv_istore (lv' := [(4, .int 0), (0, .ref (G 4 0)), (1, .int v1), (2, .int v2), (3, .int v3)]) hx hb d_Mo_unitsOf_25 hl (by decide) rfl (fun ls hl => ?_)
      refine lv_iconst (v := 0) hx hb d_Mo_unitsOf_27 (by decide) ?_
      refine lv_istore (lv' := [(5, .int 0), (4, .int 0), (0, .ref (G 4 0)), (1, .int v1), (2, .int v2), (3, .int v3)]) hx hb d_Mo_unitsOf_28 hl (by decide) rfl (fun ls hl => ?_)
      exact w_Mo_unitsOf_30 (lp_Mo_unitsOf_8 n) (kl_Mo_unitsOf_8 n)   hC ih ((yn τ 4).toNatClampNeg + 1) τ v1 v2 v3 0 0 (up_init _) hR hk _ _ hB ls (lv_sub hl [2, 3, 4, 5, 1, 0] rfl)

set_option maxHeartbeats 400000 in
set_option maxRecDepth 100000 in
theorem c_Mo_unitsOf  (τ : SM)  (x0 : Int32) (hk : (k_Mo_unitsOf τ x0) = True) : CM l y_Mo_unitsOf b_Mo_unitsOf 6 (some .int) { frames := 4, cells := 0, slots := 0, locals := 89 } D (tyL cI cL cQ) N0 N0 [.ref (G 4 0), .int x0] (wsM G cI cL τ rest) (some (.int ((m_Mo_unitsOf τ x0).1))) (fun w => w = wsM G cI cL ((m_Mo_unitsOf τ x0).2) rest) 0 0 := by
  generalize hR : m_Mo_unitsOf τ x0 = RES
  obtain ⟨RV, RS⟩ := RES
  dsimp only
  refine met_of (own := R_Mo) (by decide) rfl nwl_ok ?_
  intro p e s m below meth c hC hin hB
  have hx := hC.1
  have hb := hC.2.1
  have hl := lv_entry ([.ref (G 4 0), .int x0]) (n := 6) (Nat.le_of_ble_eq_true rfl)
  rw [lg_entry_eq]
  generalize (lg_sl ([.ref (G 4 0), .int x0]) ++ List.replicate (6 - (lg_sl ([.ref (G 4 0), .int x0])).length) Slot.unset).toArray = ls at hl ⊢
  have hl : lv_has ls 6 [(0, .ref (G 4 0)), (1, .int x0)] := hl
  rw [m_Mo_unitsOf] at hR
  rw [k_Mo_unitsOf] at hk
  refine lv_aload_n hx hb d_Mo_unitsOf_0 rfl (lv_at hl 0 rfl) ?_
  refine kV hC hB _ lkM_o rfl (c_Mo_look τ  (andL hk)) allw_ok mf_Mo_look kw_1115 ks_53 kw_1113 ⟨rfl, rfl, Nat.le_of_ble_eq_true rfl, Nat.le_of_ble_eq_true rfl⟩ rfl rfl hl.1 (Nat.le_of_ble_eq_true rfl) d_Mo_unitsOf_1 ⟨Nat.le_of_ble_eq_true rfl, Nat.le_of_ble_eq_true rfl⟩ (roK fun H locs hB => ?_)
  replace hk := andR hk
  refine lv_iconst (v := 0) hx hb d_Mo_unitsOf_4 (by decide) ?_
  refine lv_istore_n (lv' := [(2, .int 0), (0, .ref (G 4 0)), (1, .int x0)]) hx hb d_Mo_unitsOf_5 rfl hl (by decide) rfl (fun ls hl => ?_)
  refine lv_iconst (v := 0) hx hb d_Mo_unitsOf_6 (by decide) ?_
  refine lv_istore_n (lv' := [(3, .int 0), (2, .int 0), (0, .ref (G 4 0)), (1, .int x0)]) hx hb d_Mo_unitsOf_7 rfl hl (by decide) rfl (fun ls hl => ?_)
  exact w_Mo_unitsOf_8   hC 10 (m_Mo_look τ) x0 0 0 (trivial) hR hk _ _ hB ls (lv_sub hl [2, 3, 1, 0] rfl)

set_option maxHeartbeats 400000 in
set_option maxRecDepth 100000 in
theorem c_Mo_units  (τ : SM)  (x0 : Int32) (hk : (k_Mo_units τ x0) = True) : CM l y_Mo_units b_Mo_units 2 (some .int) { frames := 5, cells := 0, slots := 0, locals := 114 } D (tyL cI cL cQ) N0 N0 [.ref (G 4 0), .int x0] (wsM G cI cL τ rest) (some (.int ((m_Mo_units τ x0).1))) (fun w => w = wsM G cI cL ((m_Mo_units τ x0).2) rest) 0 0 := by
  generalize hR : m_Mo_units τ x0 = RES
  obtain ⟨RV, RS⟩ := RES
  dsimp only
  refine met_of (own := R_Mo) (by decide) rfl nwl_ok ?_
  intro p e s m below meth c hC hin hB
  have hx := hC.1
  have hb := hC.2.1
  have hl := lv_entry ([.ref (G 4 0), .int x0]) (n := 2) (Nat.le_of_ble_eq_true rfl)
  rw [lg_entry_eq]
  generalize (lg_sl ([.ref (G 4 0), .int x0]) ++ List.replicate (2 - (lg_sl ([.ref (G 4 0), .int x0])).length) Slot.unset).toArray = ls at hl ⊢
  have hl : lv_has ls 2 [(0, .ref (G 4 0)), (1, .int x0)] := hl
  rw [m_Mo_units] at hR
  rw [k_Mo_units] at hk
  refine lv_aload_n hx hb d_Mo_units_0 rfl (lv_at hl 0 rfl) ?_
  refine lv_aload_n hx hb d_Mo_units_1 rfl (lv_at hl 0 rfl) ?_
  refine lv_iload_n hx hb d_Mo_units_2 rfl (lv_at hl 1 rfl) ?_
  refine kV hC hB _ lkM_o rfl (c_Mo_isPart τ  x0 (andL hk)) allw_ok mf_Mo_isPart kw_1063 ks_44 kw_1061 ⟨rfl, rfl, Nat.le_of_ble_eq_true rfl, Nat.le_of_ble_eq_true rfl⟩ rfl rfl hl.1 (Nat.le_of_ble_eq_true rfl) d_Mo_units_3 ⟨Nat.le_of_ble_eq_true rfl, Nat.le_of_ble_eq_true rfl⟩ (roK fun H locs hB => ?_)
  replace hk := andR hk
  refine lv_if_eq (tgt := 13) hx hb d_Mo_units_6 (by decide) (fun c_1 => ?_) (fun c_1 => ?_)
  · rw [if_pos c_1] at hR hk
    refine lv_iconst (v := 1) hx hb d_Mo_units_13 (by decide) ?_
    refine pt (ty := .int) rfl hC hB _ lkM_o rfl i_Mo t_Mo t_Mo_ok n_Mo 0 (by decide) rfl rfl kw_891 (by decide +kernel) rfl rfl (Nat.le_of_ble_eq_true rfl) d_Mo_units_14 (ws' := wsM G cI cL (wn τ 0 1) rest) setM_n0 (fun H locs hB => ?_)
    refine lv_aload_n hx hb d_Mo_units_17 rfl (lv_at hl 0 rfl) ?_
    refine gt (v := .int 1) hC hB _ lkM_o rfl i_Mo 0 (by decide) rfl kw_891 rfl d_Mo_units_18 ?_
    refine lv_if_ne (tgt := 32) hx hb d_Mo_units_21 (by decide) (fun c_2 => ?_) (fun c_2 => absurd c_2 (by decide))
    refine lv_iconst (v := 0) hx hb d_Mo_units_32 (by decide) ?_
    obtain ⟨rfl, rfl⟩ := Prod.mk.inj hR
    exact ri hC hB rfl d_Mo_units_33
  · rw [if_neg c_1] at hR hk
    refine lv_iconst (v := 0) hx hb d_Mo_units_9 (by decide) ?_
    refine lv_goto (tgt := 14) hx hb d_Mo_units_10 (by decide) ?_
    refine pt (ty := .int) rfl hC hB _ lkM_o rfl i_Mo t_Mo t_Mo_ok n_Mo 0 (by decide) rfl rfl kw_891 (by decide +kernel) rfl rfl (Nat.le_of_ble_eq_true rfl) d_Mo_units_14 (ws' := wsM G cI cL (wn τ 0 0) rest) setM_n0 (fun H locs hB => ?_)
    refine lv_aload_n hx hb d_Mo_units_17 rfl (lv_at hl 0 rfl) ?_
    refine gt (v := .int 0) hC hB _ lkM_o rfl i_Mo 0 (by decide) rfl kw_891 rfl d_Mo_units_18 ?_
    refine lv_if_ne (tgt := 32) hx hb d_Mo_units_21 (by decide) (fun c_3 => absurd c_3 (by decide)) (fun c_3 => ?_)
    refine lv_aload_n hx hb d_Mo_units_24 rfl (lv_at hl 0 rfl) ?_
    refine lv_iload_n hx hb d_Mo_units_25 rfl (lv_at hl 1 rfl) ?_
    refine kV hC hB _ lkM_o rfl (c_Mo_unitsOf (wn τ 0 0)  x0 (andL hk)) allw_ok mf_Mo_unitsOf kw_1155 ks_57 kw_1153 ⟨rfl, rfl, Nat.le_of_ble_eq_true rfl, Nat.le_of_ble_eq_true rfl⟩ rfl rfl hl.1 (Nat.le_of_ble_eq_true rfl) d_Mo_units_26 ⟨Nat.le_of_ble_eq_true rfl, Nat.le_of_ble_eq_true rfl⟩ (roK fun H locs hB => ?_)
    replace hk := andR hk
    refine lv_goto (tgt := 33) hx hb d_Mo_units_29 (by decide) ?_
    obtain ⟨rfl, rfl⟩ := Prod.mk.inj hR
    exact ri hC hB rfl d_Mo_units_33

set_option maxHeartbeats 400000 in
set_option maxRecDepth 100000 in
theorem c_Mo_where  (τ : SM)  (x0 : Int32) (x1 : Int32) (x2 : Int32) (hk : (k_Mo_where τ x0 x1 x2) = True) : CM l y_Mo_where b_Mo_where 4 (some .int) { frames := 5, cells := 0, slots := 0, locals := 114 } D (tyL cI cL cQ) N0 N0 [.ref (G 4 0), .int x0, .int x1, .int x2] (wsM G cI cL τ rest) (some (.int ((m_Mo_where τ x0 x1 x2).1))) (fun w => w = wsM G cI cL ((m_Mo_where τ x0 x1 x2).2) rest) 0 0 := by
  generalize hR : m_Mo_where τ x0 x1 x2 = RES
  obtain ⟨RV, RS⟩ := RES
  dsimp only
  refine met_of (own := R_Mo) (by decide) rfl nwl_ok ?_
  intro p e s m below meth c hC hin hB
  have hx := hC.1
  have hb := hC.2.1
  have hl := lv_entry ([.ref (G 4 0), .int x0, .int x1, .int x2]) (n := 4) (Nat.le_of_ble_eq_true rfl)
  rw [lg_entry_eq]
  generalize (lg_sl ([.ref (G 4 0), .int x0, .int x1, .int x2]) ++ List.replicate (4 - (lg_sl ([.ref (G 4 0), .int x0, .int x1, .int x2])).length) Slot.unset).toArray = ls at hl ⊢
  have hl : lv_has ls 4 [(0, .ref (G 4 0)), (1, .int x0), (2, .int x1), (3, .int x2)] := hl
  rw [m_Mo_where] at hR
  rw [k_Mo_where] at hk
  refine lv_aload_n hx hb d_Mo_where_0 rfl (lv_at hl 0 rfl) ?_
  refine lv_aload_n hx hb d_Mo_where_1 rfl (lv_at hl 0 rfl) ?_
  refine lv_iload_n hx hb d_Mo_where_2 rfl (lv_at hl 1 rfl) ?_
  refine lv_iload_n hx hb d_Mo_where_3 rfl (lv_at hl 3 rfl) ?_
  refine kV hC hB _ lkM_o rfl (c_Mo_isGate τ  x0 x2 (andL hk)) allw_ok mf_Mo_isGate kw_1059 ks_43 kw_1057 ⟨rfl, rfl, Nat.le_of_ble_eq_true rfl, Nat.le_of_ble_eq_true rfl⟩ rfl rfl hl.1 (Nat.le_of_ble_eq_true rfl) d_Mo_where_4 ⟨Nat.le_of_ble_eq_true rfl, Nat.le_of_ble_eq_true rfl⟩ (roK fun H locs hB => ?_)
  replace hk := andR hk
  refine lv_if_eq (tgt := 27) hx hb d_Mo_where_7 (by decide) (fun c_1 => ?_) (fun c_1 => ?_)
  · rw [if_pos c_1] at hR hk
    refine lv_iconst (v := 1) hx hb d_Mo_where_27 (by decide) ?_
    refine pt (ty := .int) rfl hC hB _ lkM_o rfl i_Mo t_Mo t_Mo_ok n_Mo 0 (by decide) rfl rfl kw_891 (by decide +kernel) rfl rfl (Nat.le_of_ble_eq_true rfl) d_Mo_where_28 (ws' := wsM G cI cL (wn τ 0 1) rest) setM_n0 (fun H locs hB => ?_)
    refine lv_aload_n hx hb d_Mo_where_31 rfl (lv_at hl 0 rfl) ?_
    refine gt (v := .int 1) hC hB _ lkM_o rfl i_Mo 0 (by decide) rfl kw_891 rfl d_Mo_where_32 ?_
    refine lv_if_ne (tgt := 63) hx hb d_Mo_where_35 (by decide) (fun c_2 => ?_) (fun c_2 => absurd c_2 (by decide))
    refine lv_iconst (v := 0) hx hb d_Mo_where_63 (by decide) ?_
    obtain ⟨rfl, rfl⟩ := Prod.mk.inj hR
    exact ri hC hB rfl d_Mo_where_64
  · rw [if_neg c_1] at hR hk
    refine lv_iload_n hx hb d_Mo_where_10 rfl (lv_at hl 2 rfl) ?_
    refine lv_if_lt (tgt := 27) hx hb d_Mo_where_11 (by decide) (fun c_3 => ?_) (fun c_3 => ?_)
    · rw [if_pos c_3] at hR hk
      refine lv_iconst (v := 1) hx hb d_Mo_where_27 (by decide) ?_
      refine pt (ty := .int) rfl hC hB _ lkM_o rfl i_Mo t_Mo t_Mo_ok n_Mo 0 (by decide) rfl rfl kw_891 (by decide +kernel) rfl rfl (Nat.le_of_ble_eq_true rfl) d_Mo_where_28 (ws' := wsM G cI cL (wn τ 0 1) rest) setM_n0 (fun H locs hB => ?_)
      refine lv_aload_n hx hb d_Mo_where_31 rfl (lv_at hl 0 rfl) ?_
      refine gt (v := .int 1) hC hB _ lkM_o rfl i_Mo 0 (by decide) rfl kw_891 rfl d_Mo_where_32 ?_
      refine lv_if_ne (tgt := 63) hx hb d_Mo_where_35 (by decide) (fun c_4 => ?_) (fun c_4 => absurd c_4 (by decide))
      refine lv_iconst (v := 0) hx hb d_Mo_where_63 (by decide) ?_
      obtain ⟨rfl, rfl⟩ := Prod.mk.inj hR
      exact ri hC hB rfl d_Mo_where_64
    · rw [if_neg c_3] at hR hk
      refine lv_iload_n hx hb d_Mo_where_14 rfl (lv_at hl 2 rfl) ?_
      refine lv_aload_n hx hb d_Mo_where_15 rfl (lv_at hl 0 rfl) ?_
      refine lv_iload_n hx hb d_Mo_where_16 rfl (lv_at hl 1 rfl) ?_
      refine kV hC hB _ lkM_o rfl (c_Mo_unitsOf τ  x0 (andL hk)) allw_ok mf_Mo_unitsOf kw_1155 ks_57 kw_1153 ⟨rfl, rfl, Nat.le_of_ble_eq_true rfl, Nat.le_of_ble_eq_true rfl⟩ rfl rfl hl.1 (Nat.le_of_ble_eq_true rfl) d_Mo_where_17 ⟨Nat.le_of_ble_eq_true rfl, Nat.le_of_ble_eq_true rfl⟩ (roK fun H locs hB => ?_)
      replace hk := andR hk
      refine lv_icmp_ge (tgt := 27) hx hb d_Mo_where_20 (by decide) (fun c_5 => ?_) (fun c_5 => ?_)
      · rw [if_pos c_5] at hR hk
        refine lv_iconst (v := 1) hx hb d_Mo_where_27 (by decide) ?_
        refine pt (ty := .int) rfl hC hB _ lkM_o rfl i_Mo t_Mo t_Mo_ok n_Mo 0 (by decide) rfl rfl kw_891 (by decide +kernel) rfl rfl (Nat.le_of_ble_eq_true rfl) d_Mo_where_28 (ws' := wsM G cI cL (wn ((m_Mo_unitsOf τ x0).2) 0 1) rest) setM_n0 (fun H locs hB => ?_)
        refine lv_aload_n hx hb d_Mo_where_31 rfl (lv_at hl 0 rfl) ?_
        refine gt (v := .int 1) hC hB _ lkM_o rfl i_Mo 0 (by decide) rfl kw_891 rfl d_Mo_where_32 ?_
        refine lv_if_ne (tgt := 63) hx hb d_Mo_where_35 (by decide) (fun c_6 => ?_) (fun c_6 => absurd c_6 (by decide))
        refine lv_iconst (v := 0) hx hb d_Mo_where_63 (by decide) ?_
        obtain ⟨rfl, rfl⟩ := Prod.mk.inj hR
        exact ri hC hB rfl d_Mo_where_64
      · rw [if_neg c_5] at hR hk
        refine lv_iconst (v := 0) hx hb d_Mo_where_23 (by decide) ?_
        refine lv_goto (tgt := 28) hx hb d_Mo_where_24 (by decide) ?_
        refine pt (ty := .int) rfl hC hB _ lkM_o rfl i_Mo t_Mo t_Mo_ok n_Mo 0 (by decide) rfl rfl kw_891 (by decide +kernel) rfl rfl (Nat.le_of_ble_eq_true rfl) d_Mo_where_28 (ws' := wsM G cI cL (wn ((m_Mo_unitsOf τ x0).2) 0 0) rest) setM_n0 (fun H locs hB => ?_)
        refine lv_aload_n hx hb d_Mo_where_31 rfl (lv_at hl 0 rfl) ?_
        refine gt (v := .int 0) hC hB _ lkM_o rfl i_Mo 0 (by decide) rfl kw_891 rfl d_Mo_where_32 ?_
        refine lv_if_ne (tgt := 63) hx hb d_Mo_where_35 (by decide) (fun c_7 => absurd c_7 (by decide)) (fun c_7 => ?_)
        refine lv_aload_n hx hb d_Mo_where_38 rfl (lv_at hl 0 rfl) ?_
        refine lv_aload_n hx hb d_Mo_where_39 rfl (lv_at hl 0 rfl) ?_
        refine gt hC hB _ lkM_o rfl i_Mo 1 (by decide) rfl kw_892 rfl d_Mo_where_40 ?_
        refine lv_sipush (v := 2192) hx hb d_Mo_where_43 (by decide) ?_
        refine lv_bipush (v := 8) hx hb d_Mo_where_46 (by decide) ?_
        refine lv_iload_n hx hb d_Mo_where_48 rfl (lv_at hl 1 rfl) ?_
        refine lv_imul hx hb d_Mo_where_49 ?_
        refine lv_iadd hx hb d_Mo_where_50 ?_
        refine lv_iload_n hx hb d_Mo_where_51 rfl (lv_at hl 3 rfl) ?_
        refine lv_iadd hx hb d_Mo_where_52 ?_
        refine va_lald hx hb hC.2.2.2.2.2.2.2.1.1 hB.1 _ 1 (lkM_l (by decide : 0 < 4)) rfl (of_eq_true (andL hk)) d_Mo_where_53 ?_
        replace hk := andR hk
        refine lv_lconst (v := 1) hx hb d_Mo_where_54 (by decide) ?_
        refine lv_lsub hx hb d_Mo_where_55 ?_
        refine lv_iload_n hx hb d_Mo_where_56 rfl (lv_at hl 2 rfl) ?_
        refine kV hC hB _ lkM_o rfl (c_Mo_pageOf (wn ((m_Mo_unitsOf τ x0).2) 0 0)  ((yL (wn ((m_Mo_unitsOf τ x0).2) 0 0) 0 ((2192 + (8 * x0)) + x2).toNatClampNeg) - 1) x1 (andL hk)) allw_ok mf_Mo_pageOf kw_1163 ks_58 kw_1161 ⟨rfl, rfl, Nat.le_of_ble_eq_true rfl, Nat.le_of_ble_eq_true rfl⟩ rfl rfl hl.1 (Nat.le_of_ble_eq_true rfl) d_Mo_where_57 ⟨Nat.le_of_ble_eq_true rfl, Nat.le_of_ble_eq_true rfl⟩ (roK fun H locs hB => ?_)
        replace hk := andR hk
        refine lv_goto (tgt := 64) hx hb d_Mo_where_60 (by decide) ?_
        obtain ⟨rfl, rfl⟩ := Prod.mk.inj hR
        exact ri hC hB rfl d_Mo_where_64
end SMW
