def lp_Mo_first_12 : Nat → SM → Int32 → Int32 → Int32 → SM
  | 0, τ, _, _, _ => τ
  | n + 1, τ, v1, v2, v3 =>
    if 0 ≤ (lg_cmp v3.toInt64 (yL τ 0 (2162 + v1).toNatClampNeg)) then
      τ
    else
      if (yn τ 5) = (-1) then
        if (m_Mo_pageOf τ ((yL τ 0 ((2192 + (8 * v1)) + v3).toNatClampNeg) - 1) v2) = (-1) then
          lp_Mo_first_12 n τ v1 v2 (v3 + 1)
        else
          lp_Mo_first_12 n (wp (wn τ 5 (m_Mo_pageOf τ ((yL τ 0 ((2192 + (8 * v1)) + v3).toNatClampNeg) - 1) v2)) (yL τ 0 ((2432 + (8 * v1)) + v3).toNatClampNeg)) v1 v2 (v3 + 1)
      else
        if (m_Mo_pageOf τ ((yL τ 0 ((2192 + (8 * v1)) + v3).toNatClampNeg) - 1) v2) < (yn τ 5) then
          if (m_Mo_pageOf τ ((yL τ 0 ((2192 + (8 * v1)) + v3).toNatClampNeg) - 1) v2) = (-1) then
            lp_Mo_first_12 n τ v1 v2 (v3 + 1)
          else
            lp_Mo_first_12 n (wp (wn τ 5 (m_Mo_pageOf τ ((yL τ 0 ((2192 + (8 * v1)) + v3).toNatClampNeg) - 1) v2)) (yL τ 0 ((2432 + (8 * v1)) + v3).toNatClampNeg)) v1 v2 (v3 + 1)
        else
          if (m_Mo_pageOf τ ((yL τ 0 ((2192 + (8 * v1)) + v3).toNatClampNeg) - 1) v2) = (yn τ 5) then
            if 0 ≤ (lg_cmp (yL τ 0 ((2432 + (8 * v1)) + v3).toNatClampNeg) (yp τ)) then
              if (m_Mo_pageOf τ ((yL τ 0 ((2192 + (8 * v1)) + v3).toNatClampNeg) - 1) v2) = (-1) then
                lp_Mo_first_12 n τ v1 v2 (v3 + 1)
              else
                lp_Mo_first_12 n τ v1 v2 (v3 + 1)
            else
              if (m_Mo_pageOf τ ((yL τ 0 ((2192 + (8 * v1)) + v3).toNatClampNeg) - 1) v2) = (-1) then
                lp_Mo_first_12 n τ v1 v2 (v3 + 1)
              else
                lp_Mo_first_12 n (wp (wn τ 5 (m_Mo_pageOf τ ((yL τ 0 ((2192 + (8 * v1)) + v3).toNatClampNeg) - 1) v2)) (yL τ 0 ((2432 + (8 * v1)) + v3).toNatClampNeg)) v1 v2 (v3 + 1)
          else
            if (m_Mo_pageOf τ ((yL τ 0 ((2192 + (8 * v1)) + v3).toNatClampNeg) - 1) v2) = (-1) then
              lp_Mo_first_12 n τ v1 v2 (v3 + 1)
            else
              lp_Mo_first_12 n τ v1 v2 (v3 + 1)
def kl_Mo_first_12 : Nat → SM → Int32 → Int32 → Int32 → Prop
  | 0, _, _, _, _ => False
  | n + 1, τ, v1, v2, v3 =>
    (vp_in (2162 + v1) (lnML 0)) ∧
    if 0 ≤ (lg_cmp v3.toInt64 (yL τ 0 (2162 + v1).toNatClampNeg)) then
      True
    else
      (vp_in ((2192 + (8 * v1)) + v3) (lnML 0)) ∧
      (k_Mo_pageOf τ ((yL τ 0 ((2192 + (8 * v1)) + v3).toNatClampNeg) - 1) v2) ∧
      (vp_in ((2432 + (8 * v1)) + v3) (lnML 0)) ∧
      if (yn τ 5) = (-1) then
        if (m_Mo_pageOf τ ((yL τ 0 ((2192 + (8 * v1)) + v3).toNatClampNeg) - 1) v2) = (-1) then
          kl_Mo_first_12 n τ v1 v2 (v3 + 1)
        else
          kl_Mo_first_12 n (wp (wn τ 5 (m_Mo_pageOf τ ((yL τ 0 ((2192 + (8 * v1)) + v3).toNatClampNeg) - 1) v2)) (yL τ 0 ((2432 + (8 * v1)) + v3).toNatClampNeg)) v1 v2 (v3 + 1)
      else
        if (m_Mo_pageOf τ ((yL τ 0 ((2192 + (8 * v1)) + v3).toNatClampNeg) - 1) v2) < (yn τ 5) then
          if (m_Mo_pageOf τ ((yL τ 0 ((2192 + (8 * v1)) + v3).toNatClampNeg) - 1) v2) = (-1) then
            kl_Mo_first_12 n τ v1 v2 (v3 + 1)
          else
            kl_Mo_first_12 n (wp (wn τ 5 (m_Mo_pageOf τ ((yL τ 0 ((2192 + (8 * v1)) + v3).toNatClampNeg) - 1) v2)) (yL τ 0 ((2432 + (8 * v1)) + v3).toNatClampNeg)) v1 v2 (v3 + 1)
        else
          if (m_Mo_pageOf τ ((yL τ 0 ((2192 + (8 * v1)) + v3).toNatClampNeg) - 1) v2) = (yn τ 5) then
            if 0 ≤ (lg_cmp (yL τ 0 ((2432 + (8 * v1)) + v3).toNatClampNeg) (yp τ)) then
              if (m_Mo_pageOf τ ((yL τ 0 ((2192 + (8 * v1)) + v3).toNatClampNeg) - 1) v2) = (-1) then
                kl_Mo_first_12 n τ v1 v2 (v3 + 1)
              else
                kl_Mo_first_12 n τ v1 v2 (v3 + 1)
            else
              if (m_Mo_pageOf τ ((yL τ 0 ((2192 + (8 * v1)) + v3).toNatClampNeg) - 1) v2) = (-1) then
                kl_Mo_first_12 n τ v1 v2 (v3 + 1)
              else
                kl_Mo_first_12 n (wp (wn τ 5 (m_Mo_pageOf τ ((yL τ 0 ((2192 + (8 * v1)) + v3).toNatClampNeg) - 1) v2)) (yL τ 0 ((2432 + (8 * v1)) + v3).toNatClampNeg)) v1 v2 (v3 + 1)
          else
            if (m_Mo_pageOf τ ((yL τ 0 ((2192 + (8 * v1)) + v3).toNatClampNeg) - 1) v2) = (-1) then
              kl_Mo_first_12 n τ v1 v2 (v3 + 1)
            else
              kl_Mo_first_12 n τ v1 v2 (v3 + 1)

def m_Mo_first (τ : SM) (x0 : Int32) (x1 : Int32) : SM :=
  lp_Mo_first_12 10 (wp (wn τ 5 (-1)) 0) x0 x1 0

def k_Mo_first (τ : SM) (x0 : Int32) (x1 : Int32) : Prop :=
  kl_Mo_first_12 10 (wp (wn τ 5 (-1)) 0) x0 x1 0

def lp_Mo_name_112 (K : SM → Int32 → Int32 → Int32 → Int64 → Int32 → Int32 → Int32 × SM) : Nat → SM → Int32 → Int32 → Int32 → Int64 → Int32 → Int32 → Int32 → Int32 → Int32 × SM
  | 0, τ, _, _, _, _, _, _, _, _ => (0, τ)
  | n + 1, τ, v1, v2, v3, v4, v6, v7, v8, v9 =>
    if v8 ≤ v9 then
      K τ v1 v2 v3 v4 v6 (v7 + 1)
    else
      if (yn (m_Mo_first τ v7 v9) 5) = v3 then
        if 0 ≤ (lg_cmp (yp (m_Mo_first τ v7 v9)) v4) then
          lp_Mo_name_112 K n (m_Mo_first τ v7 v9) v1 v2 v3 v4 (v6 + 0) v7 v8 (v9 + 1)
        else
          lp_Mo_name_112 K n (m_Mo_first τ v7 v9) v1 v2 v3 v4 (v6 + 1) v7 v8 (v9 + 1)
      else
        if v3 ≤ (yn (m_Mo_first τ v7 v9) 5) then
          lp_Mo_name_112 K n (m_Mo_first τ v7 v9) v1 v2 v3 v4 (v6 + 0) v7 v8 (v9 + 1)
        else
          if (lg_cmp (yL (m_Mo_first τ v7 v9) 0 (5 : Int32).toNatClampNeg) 0) = 0 then
            lp_Mo_name_112 K n (m_Mo_first τ v7 v9) v1 v2 v3 v4 (v6 + 1) v7 v8 (v9 + 1)
          else
            lp_Mo_name_112 K n (m_Mo_first τ v7 v9) v1 v2 v3 v4 (v6 + 0) v7 v8 (v9 + 1)
def kl_Mo_name_112 (KP : SM → Int32 → Int32 → Int32 → Int64 → Int32 → Int32 → Prop) : Nat → SM → Int32 → Int32 → Int32 → Int64 → Int32 → Int32 → Int32 → Int32 → Prop
  | 0, _, _, _, _, _, _, _, _, _ => True
  | n + 1, τ, v1, v2, v3, v4, v6, v7, v8, v9 =>
    if v8 ≤ v9 then
      KP τ v1 v2 v3 v4 v6 (v7 + 1)
    else
      (k_Mo_first τ v7 v9) ∧
      if (yn (m_Mo_first τ v7 v9) 5) = v3 then
        if 0 ≤ (lg_cmp (yp (m_Mo_first τ v7 v9)) v4) then
          kl_Mo_name_112 KP n (m_Mo_first τ v7 v9) v1 v2 v3 v4 (v6 + 0) v7 v8 (v9 + 1)
        else
          kl_Mo_name_112 KP n (m_Mo_first τ v7 v9) v1 v2 v3 v4 (v6 + 1) v7 v8 (v9 + 1)
      else
        if v3 ≤ (yn (m_Mo_first τ v7 v9) 5) then
          kl_Mo_name_112 KP n (m_Mo_first τ v7 v9) v1 v2 v3 v4 (v6 + 0) v7 v8 (v9 + 1)
        else
          (vp_in 5 (lnML 0)) ∧
          if (lg_cmp (yL (m_Mo_first τ v7 v9) 0 (5 : Int32).toNatClampNeg) 0) = 0 then
            kl_Mo_name_112 KP n (m_Mo_first τ v7 v9) v1 v2 v3 v4 (v6 + 1) v7 v8 (v9 + 1)
          else
            kl_Mo_name_112 KP n (m_Mo_first τ v7 v9) v1 v2 v3 v4 (v6 + 0) v7 v8 (v9 + 1)

def lp_Mo_name_62 : Nat → SM → Int32 → Int32 → Int32 → Int64 → Int32 → Int32 → Int32 × SM
  | 0, τ, _, _, _, _, _, _ => (0, τ)
  | n + 1, τ, v1, v2, v3, v4, v6, v7 =>
    if (m_Mo_count τ 2) ≤ v7 then
      if (lg_cmp (yL τ 0 (5 : Int32).toNatClampNeg) 0) = 0 then
        ((((yL τ 0 (2132 + v1).toNatClampNeg).toInt32 * 10000) + v6), τ)
      else
        ((((yL τ 0 (2132 + v1).toNatClampNeg).toInt32 * 10000) + ((100 * v3) + v6)), τ)
    else
      if (lg_cmp (yL τ 0 (2132 + v7).toNatClampNeg) (yL τ 0 (2132 + v1).toNatClampNeg)) = 0 then
        lp_Mo_name_112 (lp_Mo_name_62 n) (((m_Mo_unitsOf τ v7).1).toNatClampNeg + 1) ((m_Mo_unitsOf τ v7).2) v1 v2 v3 v4 v6 v7 ((m_Mo_unitsOf τ v7).1) 0
      else
        lp_Mo_name_112 (lp_Mo_name_62 n) ((0 : Int32).toNatClampNeg + 1) τ v1 v2 v3 v4 v6 v7 0 0
def kl_Mo_name_62 : Nat → SM → Int32 → Int32 → Int32 → Int64 → Int32 → Int32 → Prop
  | 0, _, _, _, _, _, _, _ => False
  | n + 1, τ, v1, v2, v3, v4, v6, v7 =>
    (k_Mo_count τ 2) ∧
    if (m_Mo_count τ 2) ≤ v7 then
      (vp_in (2132 + v1) (lnML 0)) ∧
      (vp_in 5 (lnML 0)) ∧
      if (lg_cmp (yL τ 0 (5 : Int32).toNatClampNeg) 0) = 0 then
        True
      else
        True
    else
      (vp_in (2132 + v7) (lnML 0)) ∧
      (vp_in (2132 + v1) (lnML 0)) ∧
      if (lg_cmp (yL τ 0 (2132 + v7).toNatClampNeg) (yL τ 0 (2132 + v1).toNatClampNeg)) = 0 then
        (k_Mo_unitsOf τ v7) ∧
        kl_Mo_name_112 (kl_Mo_name_62 n) (((m_Mo_unitsOf τ v7).1).toNatClampNeg + 1) ((m_Mo_unitsOf τ v7).2) v1 v2 v3 v4 v6 v7 ((m_Mo_unitsOf τ v7).1) 0
      else
        kl_Mo_name_112 (kl_Mo_name_62 n) ((0 : Int32).toNatClampNeg + 1) τ v1 v2 v3 v4 v6 v7 0 0

def m_Mo_name (τ : SM) (x0 : Int32) (x1 : Int32) : Int32 × SM :=
  if (bi (m_Mo_isPart τ x0)) = 0 then
    (0, (wn τ 0 1))
  else
    if x1 < 0 then
      (0, (wn τ 0 1))
    else
      if (m_Mo_unitsOf τ x0).1 ≤ x1 then
        (0, (wn ((m_Mo_unitsOf τ x0).2) 0 1))
      else
        lp_Mo_name_62 32 (m_Mo_first (wn ((m_Mo_unitsOf τ x0).2) 0 0) x0 x1) x0 x1 (yn (m_Mo_first (wn ((m_Mo_unitsOf τ x0).2) 0 0) x0 x1) 5) (yp (m_Mo_first (wn ((m_Mo_unitsOf τ x0).2) 0 0) x0 x1)) 1 0

def k_Mo_name (τ : SM) (x0 : Int32) (x1 : Int32) : Prop :=
  (k_Mo_isPart τ x0) ∧
  if (bi (m_Mo_isPart τ x0)) = 0 then
    True
  else
    if x1 < 0 then
      True
    else
      (k_Mo_unitsOf τ x0) ∧
      if (m_Mo_unitsOf τ x0).1 ≤ x1 then
        True
      else
        (k_Mo_first (wn ((m_Mo_unitsOf τ x0).2) 0 0) x0 x1) ∧
        kl_Mo_name_62 32 (m_Mo_first (wn ((m_Mo_unitsOf τ x0).2) 0 0) x0 x1) x0 x1 (yn (m_Mo_first (wn ((m_Mo_unitsOf τ x0).2) 0 0) x0 x1) 5) (yp (m_Mo_first (wn ((m_Mo_unitsOf τ x0).2) 0 0) x0 x1)) 1 0

def lp_Mo_copy_241 : Nat → SM → Int32 → Int32 → Int32 → Int32 → Int32 × SM
  | 0, τ, _, _, _, _ => (0, τ)
  | n + 1, τ, v1, v2, v3, v4 =>
    if v4 = (-1) then
      (v2, (m_Mo_done τ))
    else
      if (yI τ 6 (v4 / 8).toNatClampNeg) = (-1) then
        lp_Mo_copy_241 n (m_Mo_putGate (wI ((m_Mo_addPart τ (yL τ 0 (2132 + (v4 / 8)).toNatClampNeg) (yL τ 0 (2162 + (v4 / 8)).toNatClampNeg)).2) 6 ((v4 / 8).toNatClampNeg) ((m_Mo_addPart τ (yL τ 0 (2132 + (v4 / 8)).toNatClampNeg) (yL τ 0 (2162 + (v4 / 8)).toNatClampNeg)).1)) ((8 * (yI (wI ((m_Mo_addPart τ (yL τ 0 (2132 + (v4 / 8)).toNatClampNeg) (yL τ 0 (2162 + (v4 / 8)).toNatClampNeg)).2) 6 ((v4 / 8).toNatClampNeg) ((m_Mo_addPart τ (yL τ 0 (2132 + (v4 / 8)).toNatClampNeg) (yL τ 0 (2162 + (v4 / 8)).toNatClampNeg)).1)) 6 (v4 / 8).toNatClampNeg)) + (v4 - v4 / 8 * 8)) v2) v1 v2 v3 (m_Mo_nextGate (m_Mo_putGate (wI ((m_Mo_addPart τ (yL τ 0 (2132 + (v4 / 8)).toNatClampNeg) (yL τ 0 (2162 + (v4 / 8)).toNatClampNeg)).2) 6 ((v4 / 8).toNatClampNeg) ((m_Mo_addPart τ (yL τ 0 (2132 + (v4 / 8)).toNatClampNeg) (yL τ 0 (2162 + (v4 / 8)).toNatClampNeg)).1)) ((8 * (yI (wI ((m_Mo_addPart τ (yL τ 0 (2132 + (v4 / 8)).toNatClampNeg) (yL τ 0 (2162 + (v4 / 8)).toNatClampNeg)).2) 6 ((v4 / 8).toNatClampNeg) ((m_Mo_addPart τ (yL τ 0 (2132 + (v4 / 8)).toNatClampNeg) (yL τ 0 (2162 + (v4 / 8)).toNatClampNeg)).1)) 6 (v4 / 8).toNatClampNeg)) + (v4 - v4 / 8 * 8)) v2) v1 (yL (m_Mo_putGate (wI ((m_Mo_addPart τ (yL τ 0 (2132 + (v4 / 8)).toNatClampNeg) (yL τ 0 (2162 + (v4 / 8)).toNatClampNeg)).2) 6 ((v4 / 8).toNatClampNeg) ((m_Mo_addPart τ (yL τ 0 (2132 + (v4 / 8)).toNatClampNeg) (yL τ 0 (2162 + (v4 / 8)).toNatClampNeg)).1)) ((8 * (yI (wI ((m_Mo_addPart τ (yL τ 0 (2132 + (v4 / 8)).toNatClampNeg) (yL τ 0 (2162 + (v4 / 8)).toNatClampNeg)).2) 6 ((v4 / 8).toNatClampNeg) ((m_Mo_addPart τ (yL τ 0 (2132 + (v4 / 8)).toNatClampNeg) (yL τ 0 (2162 + (v4 / 8)).toNatClampNeg)).1)) 6 (v4 / 8).toNatClampNeg)) + (v4 - v4 / 8 * 8)) v2) 0 (2432 + v4).toNatClampNeg))
      else
        lp_Mo_copy_241 n (m_Mo_putGate τ ((8 * (yI τ 6 (v4 / 8).toNatClampNeg)) + (v4 - v4 / 8 * 8)) v2) v1 v2 v3 (m_Mo_nextGate (m_Mo_putGate τ ((8 * (yI τ 6 (v4 / 8).toNatClampNeg)) + (v4 - v4 / 8 * 8)) v2) v1 (yL (m_Mo_putGate τ ((8 * (yI τ 6 (v4 / 8).toNatClampNeg)) + (v4 - v4 / 8 * 8)) v2) 0 (2432 + v4).toNatClampNeg))
def kl_Mo_copy_241 : Nat → SM → Int32 → Int32 → Int32 → Int32 → Prop
  | 0, _, _, _, _, _ => False
  | n + 1, τ, v1, v2, v3, v4 =>
    if v4 = (-1) then
      (k_Mo_done τ) ∧
      True
    else
      (vp_in (v4 / 8) (lnMI 6)) ∧
      if (yI τ 6 (v4 / 8).toNatClampNeg) = (-1) then
        (vp_in (2132 + (v4 / 8)) (lnML 0)) ∧
        (vp_in (2162 + (v4 / 8)) (lnML 0)) ∧
        (k_Mo_addPart τ (yL τ 0 (2132 + (v4 / 8)).toNatClampNeg) (yL τ 0 (2162 + (v4 / 8)).toNatClampNeg)) ∧
        (vp_in (v4 / 8) (lnMI 6)) ∧
        (vp_in (v4 / 8) (lnMI 6)) ∧
        (k_Mo_putGate (wI ((m_Mo_addPart τ (yL τ 0 (2132 + (v4 / 8)).toNatClampNeg) (yL τ 0 (2162 + (v4 / 8)).toNatClampNeg)).2) 6 ((v4 / 8).toNatClampNeg) ((m_Mo_addPart τ (yL τ 0 (2132 + (v4 / 8)).toNatClampNeg) (yL τ 0 (2162 + (v4 / 8)).toNatClampNeg)).1)) ((8 * (yI (wI ((m_Mo_addPart τ (yL τ 0 (2132 + (v4 / 8)).toNatClampNeg) (yL τ 0 (2162 + (v4 / 8)).toNatClampNeg)).2) 6 ((v4 / 8).toNatClampNeg) ((m_Mo_addPart τ (yL τ 0 (2132 + (v4 / 8)).toNatClampNeg) (yL τ 0 (2162 + (v4 / 8)).toNatClampNeg)).1)) 6 (v4 / 8).toNatClampNeg)) + (v4 - v4 / 8 * 8)) v2) ∧
        (vp_in (2432 + v4) (lnML 0)) ∧
        (k_Mo_nextGate (m_Mo_putGate (wI ((m_Mo_addPart τ (yL τ 0 (2132 + (v4 / 8)).toNatClampNeg) (yL τ 0 (2162 + (v4 / 8)).toNatClampNeg)).2) 6 ((v4 / 8).toNatClampNeg) ((m_Mo_addPart τ (yL τ 0 (2132 + (v4 / 8)).toNatClampNeg) (yL τ 0 (2162 + (v4 / 8)).toNatClampNeg)).1)) ((8 * (yI (wI ((m_Mo_addPart τ (yL τ 0 (2132 + (v4 / 8)).toNatClampNeg) (yL τ 0 (2162 + (v4 / 8)).toNatClampNeg)).2) 6 ((v4 / 8).toNatClampNeg) ((m_Mo_addPart τ (yL τ 0 (2132 + (v4 / 8)).toNatClampNeg) (yL τ 0 (2162 + (v4 / 8)).toNatClampNeg)).1)) 6 (v4 / 8).toNatClampNeg)) + (v4 - v4 / 8 * 8)) v2) v1 (yL (m_Mo_putGate (wI ((m_Mo_addPart τ (yL τ 0 (2132 + (v4 / 8)).toNatClampNeg) (yL τ 0 (2162 + (v4 / 8)).toNatClampNeg)).2) 6 ((v4 / 8).toNatClampNeg) ((m_Mo_addPart τ (yL τ 0 (2132 + (v4 / 8)).toNatClampNeg) (yL τ 0 (2162 + (v4 / 8)).toNatClampNeg)).1)) ((8 * (yI (wI ((m_Mo_addPart τ (yL τ 0 (2132 + (v4 / 8)).toNatClampNeg) (yL τ 0 (2162 + (v4 / 8)).toNatClampNeg)).2) 6 ((v4 / 8).toNatClampNeg) ((m_Mo_addPart τ (yL τ 0 (2132 + (v4 / 8)).toNatClampNeg) (yL τ 0 (2162 + (v4 / 8)).toNatClampNeg)).1)) 6 (v4 / 8).toNatClampNeg)) + (v4 - v4 / 8 * 8)) v2) 0 (2432 + v4).toNatClampNeg)) ∧
        kl_Mo_copy_241 n (m_Mo_putGate (wI ((m_Mo_addPart τ (yL τ 0 (2132 + (v4 / 8)).toNatClampNeg) (yL τ 0 (2162 + (v4 / 8)).toNatClampNeg)).2) 6 ((v4 / 8).toNatClampNeg) ((m_Mo_addPart τ (yL τ 0 (2132 + (v4 / 8)).toNatClampNeg) (yL τ 0 (2162 + (v4 / 8)).toNatClampNeg)).1)) ((8 * (yI (wI ((m_Mo_addPart τ (yL τ 0 (2132 + (v4 / 8)).toNatClampNeg) (yL τ 0 (2162 + (v4 / 8)).toNatClampNeg)).2) 6 ((v4 / 8).toNatClampNeg) ((m_Mo_addPart τ (yL τ 0 (2132 + (v4 / 8)).toNatClampNeg) (yL τ 0 (2162 + (v4 / 8)).toNatClampNeg)).1)) 6 (v4 / 8).toNatClampNeg)) + (v4 - v4 / 8 * 8)) v2) v1 v2 v3 (m_Mo_nextGate (m_Mo_putGate (wI ((m_Mo_addPart τ (yL τ 0 (2132 + (v4 / 8)).toNatClampNeg) (yL τ 0 (2162 + (v4 / 8)).toNatClampNeg)).2) 6 ((v4 / 8).toNatClampNeg) ((m_Mo_addPart τ (yL τ 0 (2132 + (v4 / 8)).toNatClampNeg) (yL τ 0 (2162 + (v4 / 8)).toNatClampNeg)).1)) ((8 * (yI (wI ((m_Mo_addPart τ (yL τ 0 (2132 + (v4 / 8)).toNatClampNeg) (yL τ 0 (2162 + (v4 / 8)).toNatClampNeg)).2) 6 ((v4 / 8).toNatClampNeg) ((m_Mo_addPart τ (yL τ 0 (2132 + (v4 / 8)).toNatClampNeg) (yL τ 0 (2162 + (v4 / 8)).toNatClampNeg)).1)) 6 (v4 / 8).toNatClampNeg)) + (v4 - v4 / 8 * 8)) v2) v1 (yL (m_Mo_putGate (wI ((m_Mo_addPart τ (yL τ 0 (2132 + (v4 / 8)).toNatClampNeg) (yL τ 0 (2162 + (v4 / 8)).toNatClampNeg)).2) 6 ((v4 / 8).toNatClampNeg) ((m_Mo_addPart τ (yL τ 0 (2132 + (v4 / 8)).toNatClampNeg) (yL τ 0 (2162 + (v4 / 8)).toNatClampNeg)).1)) ((8 * (yI (wI ((m_Mo_addPart τ (yL τ 0 (2132 + (v4 / 8)).toNatClampNeg) (yL τ 0 (2162 + (v4 / 8)).toNatClampNeg)).2) 6 ((v4 / 8).toNatClampNeg) ((m_Mo_addPart τ (yL τ 0 (2132 + (v4 / 8)).toNatClampNeg) (yL τ 0 (2162 + (v4 / 8)).toNatClampNeg)).1)) 6 (v4 / 8).toNatClampNeg)) + (v4 - v4 / 8 * 8)) v2) 0 (2432 + v4).toNatClampNeg))
      else
        (vp_in (v4 / 8) (lnMI 6)) ∧
        (k_Mo_putGate τ ((8 * (yI τ 6 (v4 / 8).toNatClampNeg)) + (v4 - v4 / 8 * 8)) v2) ∧
        (vp_in (2432 + v4) (lnML 0)) ∧
        (k_Mo_nextGate (m_Mo_putGate τ ((8 * (yI τ 6 (v4 / 8).toNatClampNeg)) + (v4 - v4 / 8 * 8)) v2) v1 (yL (m_Mo_putGate τ ((8 * (yI τ 6 (v4 / 8).toNatClampNeg)) + (v4 - v4 / 8 * 8)) v2) 0 (2432 + v4).toNatClampNeg)) ∧
        kl_Mo_copy_241 n (m_Mo_putGate τ ((8 * (yI τ 6 (v4 / 8).toNatClampNeg)) + (v4 - v4 / 8 * 8)) v2) v1 v2 v3 (m_Mo_nextGate (m_Mo_putGate τ ((8 * (yI τ 6 (v4 / 8).toNatClampNeg)) + (v4 - v4 / 8 * 8)) v2) v1 (yL (m_Mo_putGate τ ((8 * (yI τ 6 (v4 / 8).toNatClampNeg)) + (v4 - v4 / 8 * 8)) v2) 0 (2432 + v4).toNatClampNeg))

def lp_Mo_copy_210 : Nat → SM → Int32 → Int32 → Int32 → Int32 → Int32 × SM
  | 0, τ, _, _, _, _ => (0, τ)
  | n + 1, τ, v1, v2, v3, v4 =>
    if 30 ≤ v4 then
      lp_Mo_copy_241 242 τ v1 v2 v3 (m_Mo_nextGate τ v1 (-1))
    else
      lp_Mo_copy_210 n (wI τ 6 v4.toNatClampNeg (-1)) v1 v2 v3 (v4 + 1)
def kl_Mo_copy_210 : Nat → SM → Int32 → Int32 → Int32 → Int32 → Prop
  | 0, _, _, _, _, _ => True
  | n + 1, τ, v1, v2, v3, v4 =>
    if 30 ≤ v4 then
      (k_Mo_nextGate τ v1 (-1)) ∧
      kl_Mo_copy_241 242 τ v1 v2 v3 (m_Mo_nextGate τ v1 (-1))
    else
      (vp_in v4 (lnMI 6)) ∧
      kl_Mo_copy_210 n (wI τ 6 v4.toNatClampNeg (-1)) v1 v2 v3 (v4 + 1)

def lp_Mo_copy_142 (K : SM → Int32 → Int32 → Int32 → Int32 × SM) : Nat → SM → Int32 → Int32 → Int32 → Int32 → Int32 → Int32 × SM
  | 0, τ, _, _, _, _, _ => (0, τ)
  | n + 1, τ, v1, v2, v3, v4, v5 =>
    if 32 ≤ v5 then
      K τ v1 v2 (m_Mo_next τ v1 (yL τ 0 (152 + v3).toNatClampNeg))
    else
      lp_Mo_copy_142 K n (wL τ 0 (((212 + (32 * v4)) + v5).toNatClampNeg) (yL τ 0 ((212 + (32 * v3)) + v5).toNatClampNeg)) v1 v2 v3 v4 (v5 + 1)
def kl_Mo_copy_142 (KP : SM → Int32 → Int32 → Int32 → Prop) : Nat → SM → Int32 → Int32 → Int32 → Int32 → Int32 → Prop
  | 0, _, _, _, _, _, _ => True
  | n + 1, τ, v1, v2, v3, v4, v5 =>
    if 32 ≤ v5 then
      (vp_in (152 + v3) (lnML 0)) ∧
      (k_Mo_next τ v1 (yL τ 0 (152 + v3).toNatClampNeg)) ∧
      KP τ v1 v2 (m_Mo_next τ v1 (yL τ 0 (152 + v3).toNatClampNeg))
    else
      (vp_in ((212 + (32 * v3)) + v5) (lnML 0)) ∧
      (vp_in ((212 + (32 * v4)) + v5) (lnML 0)) ∧
      kl_Mo_copy_142 KP n (wL τ 0 (((212 + (32 * v4)) + v5).toNatClampNeg) (yL τ 0 ((212 + (32 * v3)) + v5).toNatClampNeg)) v1 v2 v3 v4 (v5 + 1)

def lp_Mo_copy_117 : Nat → SM → Int32 → Int32 → Int32 → Int32 × SM
  | 0, τ, _, _, _ => (0, τ)
  | n + 1, τ, v1, v2, v3 =>
    if v3 = (-1) then
      lp_Mo_copy_210 ((30 : Int32).toNatClampNeg + 1) τ v1 v2 v3 0
    else
      lp_Mo_copy_142 (lp_Mo_copy_117 n) ((32 : Int32).toNatClampNeg + 1) ((m_Mo_addPlacement τ v2 ((yL τ 0 (92 + v3).toNatClampNeg).toInt32)).2) v1 v2 v3 ((m_Mo_addPlacement τ v2 ((yL τ 0 (92 + v3).toNatClampNeg).toInt32)).1) 0
def kl_Mo_copy_117 : Nat → SM → Int32 → Int32 → Int32 → Prop
  | 0, _, _, _, _ => False
  | n + 1, τ, v1, v2, v3 =>
    if v3 = (-1) then
      kl_Mo_copy_210 ((30 : Int32).toNatClampNeg + 1) τ v1 v2 v3 0
    else
      (vp_in (92 + v3) (lnML 0)) ∧
      (k_Mo_addPlacement τ v2 ((yL τ 0 (92 + v3).toNatClampNeg).toInt32)) ∧
      kl_Mo_copy_142 (kl_Mo_copy_117 n) ((32 : Int32).toNatClampNeg + 1) ((m_Mo_addPlacement τ v2 ((yL τ 0 (92 + v3).toNatClampNeg).toInt32)).2) v1 v2 v3 ((m_Mo_addPlacement τ v2 ((yL τ 0 (92 + v3).toNatClampNeg).toInt32)).1) 0

def m_Mo_copy (τ : SM) (x0 : Int32) : Int32 × SM :=
  if (bi (m_Mo_isSheet τ x0)) = 0 then
    (0, (wn τ 0 1))
  else
    if (m_Mo_count (wn τ 0 0) 0) = 24 then
      ((-1), (wn τ 0 0))
    else
      if 60 < ((m_Mo_count (wn τ 0 0) 1) + (m_Mo_placementsOn (wn τ 0 0) x0)) then
        ((-1), (wn τ 0 0))
      else
        if ((m_Mo_count (wn τ 0 0) 2) + (m_Mo_partsOn (wn τ 0 0) x0)) ≤ 30 then
          lp_Mo_copy_117 62 (wL (wL (m_Mo_begin (wn τ 0 0)) 0 ((8 + (m_Mo_count (m_Mo_begin (wn τ 0 0)) 0)).toNatClampNeg) (yL (m_Mo_begin (wn τ 0 0)) 0 (8 + x0).toNatClampNeg)) 0 ((0 : Int32).toNatClampNeg) ((yL (wL (m_Mo_begin (wn τ 0 0)) 0 ((8 + (m_Mo_count (m_Mo_begin (wn τ 0 0)) 0)).toNatClampNeg) (yL (m_Mo_begin (wn τ 0 0)) 0 (8 + x0).toNatClampNeg)) 0 (0 : Int32).toNatClampNeg) + 1)) x0 (m_Mo_count (m_Mo_begin (wn τ 0 0)) 0) (m_Mo_next (wL (wL (m_Mo_begin (wn τ 0 0)) 0 ((8 + (m_Mo_count (m_Mo_begin (wn τ 0 0)) 0)).toNatClampNeg) (yL (m_Mo_begin (wn τ 0 0)) 0 (8 + x0).toNatClampNeg)) 0 ((0 : Int32).toNatClampNeg) ((yL (wL (m_Mo_begin (wn τ 0 0)) 0 ((8 + (m_Mo_count (m_Mo_begin (wn τ 0 0)) 0)).toNatClampNeg) (yL (m_Mo_begin (wn τ 0 0)) 0 (8 + x0).toNatClampNeg)) 0 (0 : Int32).toNatClampNeg) + 1)) x0 (-1))
        else
          ((-1), (wn τ 0 0))

def k_Mo_copy (τ : SM) (x0 : Int32) : Prop :=
  (k_Mo_isSheet τ x0) ∧
  if (bi (m_Mo_isSheet τ x0)) = 0 then
    True
  else
    (k_Mo_count (wn τ 0 0) 0) ∧
    if (m_Mo_count (wn τ 0 0) 0) = 24 then
      True
    else
      (k_Mo_count (wn τ 0 0) 1) ∧
      (k_Mo_placementsOn (wn τ 0 0) x0) ∧
      if 60 < ((m_Mo_count (wn τ 0 0) 1) + (m_Mo_placementsOn (wn τ 0 0) x0)) then
        True
      else
        (k_Mo_count (wn τ 0 0) 2) ∧
        (k_Mo_partsOn (wn τ 0 0) x0) ∧
        if ((m_Mo_count (wn τ 0 0) 2) + (m_Mo_partsOn (wn τ 0 0) x0)) ≤ 30 then
          (k_Mo_begin (wn τ 0 0)) ∧
          (k_Mo_count (m_Mo_begin (wn τ 0 0)) 0) ∧
          (vp_in (8 + x0) (lnML 0)) ∧
          (vp_in (8 + (m_Mo_count (m_Mo_begin (wn τ 0 0)) 0)) (lnML 0)) ∧
          (vp_in 0 (lnML 0)) ∧
          (vp_in 0 (lnML 0)) ∧
          (k_Mo_next (wL (wL (m_Mo_begin (wn τ 0 0)) 0 ((8 + (m_Mo_count (m_Mo_begin (wn τ 0 0)) 0)).toNatClampNeg) (yL (m_Mo_begin (wn τ 0 0)) 0 (8 + x0).toNatClampNeg)) 0 ((0 : Int32).toNatClampNeg) ((yL (wL (m_Mo_begin (wn τ 0 0)) 0 ((8 + (m_Mo_count (m_Mo_begin (wn τ 0 0)) 0)).toNatClampNeg) (yL (m_Mo_begin (wn τ 0 0)) 0 (8 + x0).toNatClampNeg)) 0 (0 : Int32).toNatClampNeg) + 1)) x0 (-1)) ∧
          kl_Mo_copy_117 62 (wL (wL (m_Mo_begin (wn τ 0 0)) 0 ((8 + (m_Mo_count (m_Mo_begin (wn τ 0 0)) 0)).toNatClampNeg) (yL (m_Mo_begin (wn τ 0 0)) 0 (8 + x0).toNatClampNeg)) 0 ((0 : Int32).toNatClampNeg) ((yL (wL (m_Mo_begin (wn τ 0 0)) 0 ((8 + (m_Mo_count (m_Mo_begin (wn τ 0 0)) 0)).toNatClampNeg) (yL (m_Mo_begin (wn τ 0 0)) 0 (8 + x0).toNatClampNeg)) 0 (0 : Int32).toNatClampNeg) + 1)) x0 (m_Mo_count (m_Mo_begin (wn τ 0 0)) 0) (m_Mo_next (wL (wL (m_Mo_begin (wn τ 0 0)) 0 ((8 + (m_Mo_count (m_Mo_begin (wn τ 0 0)) 0)).toNatClampNeg) (yL (m_Mo_begin (wn τ 0 0)) 0 (8 + x0).toNatClampNeg)) 0 ((0 : Int32).toNatClampNeg) ((yL (wL (m_Mo_begin (wn τ 0 0)) 0 ((8 + (m_Mo_count (m_Mo_begin (wn τ 0 0)) 0)).toNatClampNeg) (yL (m_Mo_begin (wn τ 0 0)) 0 (8 + x0).toNatClampNeg)) 0 (0 : Int32).toNatClampNeg) + 1)) x0 (-1))
        else
          True

section SMW
variable {l : Launch} {D : va_G} {N0 N1 : Nat} {G : Nat → Nat → Nat} {cI cL cQ : ClassId} {rest : va_W}
set_option maxHeartbeats 400000 in
set_option maxRecDepth 100000 in
theorem w_Mo_first_12 {p : Program} {e : Env} {s : State} {m : MethodId} {args : Array Value} {below : List Frame} {meth : Method} {c : Code} {RES : SM}   (hC : cx D classes (tyL cI cL cQ) NWL ALLW N0 p s m args meth c b_Mo_first 8 (none) R_Mo) :
    ∀ (n : Nat) (τ : SM) (v1 : Int32) (v2 : Int32) (v3 : Int32), True → lp_Mo_first_12 n τ  v1 v2 v3 = RES → (kl_Mo_first_12 n τ  v1 v2 v3) = True → ∀ (H : Heap) (locs : List Loc), bd D classes N0 N0 (wsM G cI cL τ rest) s H locs → ∀ (ls : Array Slot), lv_has ls 8 [(0, .ref (G 4 0)), (1, .int v1), (2, .int v2), (3, .int v3)] → W p l e { frames := 1, cells := 0, slots := 0, locals := 25 } s m args below meth c H locs 0 0 (MQ below (qx D classes N0 N0 (none) (fun w => w = wsM G cI cL RES rest)) args s 0 0 (ga N0)) (F0 m 12 ls []) := by
  have hx := hC.1
  have hb := hC.2.1
  intro n
  induction n with
  | zero =>
    intro τ v1 v2 v3 hI hR hk
    exact False.elim (of_eq_true hk)
  | succ n ih =>
    intro τ v1 v2 v3 hI hR hk H locs hB ls hl
    rw [lp_Mo_first_12] at hR
    rw [kl_Mo_first_12] at hk
    refine lv_iload_n hx hb d_Mo_first_12 rfl (lv_at hl 3 rfl) ?_
    refine lv_i2l hx hb d_Mo_first_13 rfl ?_
    refine lv_aload_n hx hb d_Mo_first_14 rfl (lv_at hl 0 rfl) ?_
    refine gt hC hB _ lkM_o rfl i_Mo 1 (by decide) rfl kw_892 rfl d_Mo_first_15 ?_
    refine lv_sipush (v := 2162) hx hb d_Mo_first_18 (by decide) ?_
    refine lv_iload_n hx hb d_Mo_first_21 rfl (lv_at hl 1 rfl) ?_
    refine lv_iadd hx hb d_Mo_first_22 ?_
    refine va_lald hx hb hC.2.2.2.2.2.2.2.1.1 hB.1 _ 1 (lkM_l (by decide : 0 < 4)) rfl (of_eq_true (andL hk)) d_Mo_first_23 ?_
    replace hk := andR hk
    refine W.lcmp hx hb d_Mo_first_24 ?_
    refine lv_if_ge (tgt := 141) hx hb d_Mo_first_25 (by decide) (fun c_1 => ?_) (fun c_1 => ?_)
    · rw [if_pos c_1] at hR hk
      subst hR
      exact rv hC hB rfl d_Mo_first_141
    · rw [if_neg c_1] at hR hk
      refine lv_aload_n hx hb d_Mo_first_28 rfl (lv_at hl 0 rfl) ?_
      refine lv_aload_n hx hb d_Mo_first_29 rfl (lv_at hl 0 rfl) ?_
      refine gt hC hB _ lkM_o rfl i_Mo 1 (by decide) rfl kw_892 rfl d_Mo_first_30 ?_
      refine lv_sipush (v := 2192) hx hb d_Mo_first_33 (by decide) ?_
      refine lv_bipush (v := 8) hx hb d_Mo_first_36 (by decide) ?_
      refine lv_iload_n hx hb d_Mo_first_38 rfl (lv_at hl 1 rfl) ?_
      refine lv_imul hx hb d_Mo_first_39 ?_
      refine lv_iadd hx hb d_Mo_first_40 ?_
      refine lv_iload_n hx hb d_Mo_first_41 rfl (lv_at hl 3 rfl) ?_
      refine lv_iadd hx hb d_Mo_first_42 ?_
      refine va_lald hx hb hC.2.2.2.2.2.2.2.1.1 hB.1 _ 1 (lkM_l (by decide : 0 < 4)) rfl (of_eq_true (andL hk)) d_Mo_first_43 ?_
      replace hk := andR hk
      refine lv_lconst (v := 1) hx hb d_Mo_first_44 (by decide) ?_
      refine lv_lsub hx hb d_Mo_first_45 ?_
      refine lv_iload_n hx hb d_Mo_first_46 rfl (lv_at hl 2 rfl) ?_
      refine kV hC hB _ lkM_o rfl (c_Mo_pageOf τ  ((yL τ 0 ((2192 + (8 * v1)) + v3).toNatClampNeg) - 1) v2 (andL hk)) allw_ok mf_Mo_pageOf kw_1163 ks_58 kw_1161 ⟨rfl, rfl, Nat.le_of_ble_eq_true rfl, Nat.le_of_ble_eq_true rfl⟩ rfl rfl hl.1 (Nat.le_of_ble_eq_true rfl) d_Mo_first_47 ⟨Nat.le_of_ble_eq_true rfl, Nat.le_of_ble_eq_true rfl⟩ (roK fun H locs hB => ?_)
      replace hk := andR hk
      refine lv_istore (lv' := [(4, .int (m_Mo_pageOf τ ((yL τ 0 ((2192 + (8 * v1)) + v3).toNatClampNeg) - 1) v2)), (0, .ref (G 4 0)), (1, .int v1), (2, .int v2), (3, .int v3)]) hx hb d_Mo_first_50 hl (by decide) rfl (fun ls hl => ?_)
      refine lv_aload_n hx hb d_Mo_first_52 rfl (lv_at hl 1 rfl) ?_
      refine gt hC hB _ lkM_o rfl i_Mo 1 (by decide) rfl kw_892 rfl d_Mo_first_53 ?_
      refine lv_sipush (v := 2432) hx hb d_Mo_first_56 (by decide) ?_
      refine lv_bipush (v := 8) hx hb d_Mo_first_59 (by decide) ?_
      refine lv_iload_n hx hb d_Mo_first_61 rfl (lv_at hl 2 rfl) ?_
      refine lv_imul hx hb d_Mo_first_62 ?_
      refine lv_iadd hx hb d_Mo_first_63 ?_
      refine lv_iload_n hx hb d_Mo_first_64 rfl (lv_at hl 4 rfl) ?_
      refine lv_iadd hx hb d_Mo_first_65 ?_
      refine va_lald hx hb hC.2.2.2.2.2.2.2.1.1 hB.1 _ 1 (lkM_l (by decide : 0 < 4)) rfl (of_eq_true (andL hk)) d_Mo_first_66 ?_
      replace hk := andR hk
      refine lv_lstore (lv' := [(5, .long (yL τ 0 ((2432 + (8 * v1)) + v3).toNatClampNeg)), (4, .int (m_Mo_pageOf τ ((yL τ 0 ((2192 + (8 * v1)) + v3).toNatClampNeg) - 1) v2)), (0, .ref (G 4 0)), (1, .int v1), (2, .int v2), (3, .int v3)]) hx hb d_Mo_first_67 hl (by decide) rfl (fun ls hl => ?_)
      refine lv_aload_n hx hb d_Mo_first_69 rfl (lv_at hl 2 rfl) ?_
      refine gt (v := .int (yn τ 5)) hC hB _ lkM_o rfl i_Mo 17 (by decide) rfl kw_908 rfl d_Mo_first_70 ?_
      refine lv_iconst (v := (-1)) hx hb d_Mo_first_73 (by decide) ?_
      refine lv_icmp_eq (tgt := 105) hx hb d_Mo_first_74 (by decide) (fun c_2 => ?_) (fun c_2 => ?_)
      · rw [if_pos c_2] at hR hk
        refine lv_iconst (v := 1) hx hb d_Mo_first_105 (by decide) ?_
        refine lv_goto (tgt := 110) hx hb d_Mo_first_106 (by decide) ?_
        refine lv_istore (lv' := [(7, .int 1), (5, .long (yL τ 0 ((2432 + (8 * v1)) + v3).toNatClampNeg)), (4, .int (m_Mo_pageOf τ ((yL τ 0 ((2192 + (8 * v1)) + v3).toNatClampNeg) - 1) v2)), (0, .ref (G 4 0)), (1, .int v1), (2, .int v2), (3, .int v3)]) hx hb d_Mo_first_110 hl (by decide) rfl (fun ls hl => ?_)
        refine lv_iload hx hb d_Mo_first_112 (lv_at hl 2 rfl) ?_
        refine lv_iconst (v := (-1)) hx hb d_Mo_first_114 (by decide) ?_
        refine lv_icmp_eq (tgt := 135) hx hb d_Mo_first_115 (by decide) (fun c_3 => ?_) (fun c_3 => ?_)
        · rw [if_pos c_3] at hR hk
          refine lv_iinc (v := (v3 + 1)) (lv' := [(3, .int (v3 + 1)), (7, .int 1), (5, .long (yL τ 0 ((2432 + (8 * v1)) + v3).toNatClampNeg)), (4, .int (m_Mo_pageOf τ ((yL τ 0 ((2192 + (8 * v1)) + v3).toNatClampNeg) - 1) v2)), (0, .ref (G 4 0)), (1, .int v1), (2, .int v2)]) hx hb d_Mo_first_135 hl (k := 6) rfl rfl (by decide) rfl (fun ls hl => ?_)
          refine lv_goto (tgt := 12) hx hb d_Mo_first_138 (by decide) ?_
          exact ih τ v1 v2 (v3 + 1) (trivial) hR hk _ _ hB ls (lv_sub hl [4, 5, 6, 0] rfl)
        · rw [if_neg c_3] at hR hk
          refine lv_iload hx hb d_Mo_first_118 (lv_at hl 0 rfl) ?_
          refine lv_if_eq (tgt := 135) hx hb d_Mo_first_120 (by decide) (fun c_4 => absurd c_4 (by decide)) (fun c_4 => ?_)
          refine lv_aload_n hx hb d_Mo_first_123 rfl (lv_at hl 3 rfl) ?_
          refine lv_iload hx hb d_Mo_first_124 (lv_at hl 2 rfl) ?_
          refine pt (ty := .int) rfl hC hB _ lkM_o rfl i_Mo t_Mo t_Mo_ok n_Mo 17 (by decide) rfl rfl kw_908 (by decide +kernel) rfl rfl (Nat.le_of_ble_eq_true rfl) d_Mo_first_126 (ws' := wsM G cI cL (wn τ 5 (m_Mo_pageOf τ ((yL τ 0 ((2192 + (8 * v1)) + v3).toNatClampNeg) - 1) v2)) rest) setM_n5 (fun H locs hB => ?_)
          refine lv_aload_n hx hb d_Mo_first_129 rfl (lv_at hl 3 rfl) ?_
          refine lv_lload hx hb d_Mo_first_130 (lv_at hl 1 rfl) ?_
          refine pt (ty := .long) rfl hC hB _ lkM_o rfl i_Mo t_Mo t_Mo_ok n_Mo 18 (by decide) rfl rfl kw_909 (by decide +kernel) rfl rfl (Nat.le_of_ble_eq_true rfl) d_Mo_first_132 (ws' := wsM G cI cL (wp (wn τ 5 (m_Mo_pageOf τ ((yL τ 0 ((2192 + (8 * v1)) + v3).toNatClampNeg) - 1) v2)) (yL τ 0 ((2432 + (8 * v1)) + v3).toNatClampNeg)) rest) setM_p (fun H locs hB => ?_)
          refine lv_iinc (v := (v3 + 1)) (lv' := [(3, .int (v3 + 1)), (7, .int 1), (5, .long (yL τ 0 ((2432 + (8 * v1)) + v3).toNatClampNeg)), (4, .int (m_Mo_pageOf τ ((yL τ 0 ((2192 + (8 * v1)) + v3).toNatClampNeg) - 1) v2)), (0, .ref (G 4 0)), (1, .int v1), (2, .int v2)]) hx hb d_Mo_first_135 hl (k := 6) rfl rfl (by decide) rfl (fun ls hl => ?_)
          refine lv_goto (tgt := 12) hx hb d_Mo_first_138 (by decide) ?_
          exact ih (wp (wn τ 5 (m_Mo_pageOf τ ((yL τ 0 ((2192 + (8 * v1)) + v3).toNatClampNeg) - 1) v2)) (yL τ 0 ((2432 + (8 * v1)) + v3).toNatClampNeg)) v1 v2 (v3 + 1) (trivial) hR hk _ _ hB ls (lv_sub hl [4, 5, 6, 0] rfl)
      · rw [if_neg c_2] at hR hk
        refine lv_iload hx hb d_Mo_first_77 (lv_at hl 1 rfl) ?_
        refine lv_aload_n hx hb d_Mo_first_79 rfl (lv_at hl 2 rfl) ?_
        refine gt (v := .int (yn τ 5)) hC hB _ lkM_o rfl i_Mo 17 (by decide) rfl kw_908 rfl d_Mo_first_80 ?_
        refine lv_icmp_lt (tgt := 105) hx hb d_Mo_first_83 (by decide) (fun c_5 => ?_) (fun c_5 => ?_)
        · rw [if_pos c_5] at hR hk
          refine lv_iconst (v := 1) hx hb d_Mo_first_105 (by decide) ?_
          refine lv_goto (tgt := 110) hx hb d_Mo_first_106 (by decide) ?_
          refine lv_istore (lv' := [(7, .int 1), (5, .long (yL τ 0 ((2432 + (8 * v1)) + v3).toNatClampNeg)), (4, .int (m_Mo_pageOf τ ((yL τ 0 ((2192 + (8 * v1)) + v3).toNatClampNeg) - 1) v2)), (0, .ref (G 4 0)), (1, .int v1), (2, .int v2), (3, .int v3)]) hx hb d_Mo_first_110 hl (by decide) rfl (fun ls hl => ?_)
          refine lv_iload hx hb d_Mo_first_112 (lv_at hl 2 rfl) ?_
          refine lv_iconst (v := (-1)) hx hb d_Mo_first_114 (by decide) ?_
          refine lv_icmp_eq (tgt := 135) hx hb d_Mo_first_115 (by decide) (fun c_6 => ?_) (fun c_6 => ?_)
          · rw [if_pos c_6] at hR hk
            refine lv_iinc (v := (v3 + 1)) (lv' := [(3, .int (v3 + 1)), (7, .int 1), (5, .long (yL τ 0 ((2432 + (8 * v1)) + v3).toNatClampNeg)), (4, .int (m_Mo_pageOf τ ((yL τ 0 ((2192 + (8 * v1)) + v3).toNatClampNeg) - 1) v2)), (0, .ref (G 4 0)), (1, .int v1), (2, .int v2)]) hx hb d_Mo_first_135 hl (k := 6) rfl rfl (by decide) rfl (fun ls hl => ?_)
            refine lv_goto (tgt := 12) hx hb d_Mo_first_138 (by decide) ?_
            exact ih τ v1 v2 (v3 + 1) (trivial) hR hk _ _ hB ls (lv_sub hl [4, 5, 6, 0] rfl)
          · rw [if_neg c_6] at hR hk
            refine lv_iload hx hb d_Mo_first_118 (lv_at hl 0 rfl) ?_
            refine lv_if_eq (tgt := 135) hx hb d_Mo_first_120 (by decide) (fun c_7 => absurd c_7 (by decide)) (fun c_7 => ?_)
            refine lv_aload_n hx hb d_Mo_first_123 rfl (lv_at hl 3 rfl) ?_
            refine lv_iload hx hb d_Mo_first_124 (lv_at hl 2 rfl) ?_
            refine pt (ty := .int) rfl hC hB _ lkM_o rfl i_Mo t_Mo t_Mo_ok n_Mo 17 (by decide) rfl rfl kw_908 (by decide +kernel) rfl rfl (Nat.le_of_ble_eq_true rfl) d_Mo_first_126 (ws' := wsM G cI cL (wn τ 5 (m_Mo_pageOf τ ((yL τ 0 ((2192 + (8 * v1)) + v3).toNatClampNeg) - 1) v2)) rest) setM_n5 (fun H locs hB => ?_)
            refine lv_aload_n hx hb d_Mo_first_129 rfl (lv_at hl 3 rfl) ?_
            refine lv_lload hx hb d_Mo_first_130 (lv_at hl 1 rfl) ?_
            refine pt (ty := .long) rfl hC hB _ lkM_o rfl i_Mo t_Mo t_Mo_ok n_Mo 18 (by decide) rfl rfl kw_909 (by decide +kernel) rfl rfl (Nat.le_of_ble_eq_true rfl) d_Mo_first_132 (ws' := wsM G cI cL (wp (wn τ 5 (m_Mo_pageOf τ ((yL τ 0 ((2192 + (8 * v1)) + v3).toNatClampNeg) - 1) v2)) (yL τ 0 ((2432 + (8 * v1)) + v3).toNatClampNeg)) rest) setM_p (fun H locs hB => ?_)
            refine lv_iinc (v := (v3 + 1)) (lv' := [(3, .int (v3 + 1)), (7, .int 1), (5, .long (yL τ 0 ((2432 + (8 * v1)) + v3).toNatClampNeg)), (4, .int (m_Mo_pageOf τ ((yL τ 0 ((2192 + (8 * v1)) + v3).toNatClampNeg) - 1) v2)), (0, .ref (G 4 0)), (1, .int v1), (2, .int v2)]) hx hb d_Mo_first_135 hl (k := 6) rfl rfl (by decide) rfl (fun ls hl => ?_)
            refine lv_goto (tgt := 12) hx hb d_Mo_first_138 (by decide) ?_
            exact ih (wp (wn τ 5 (m_Mo_pageOf τ ((yL τ 0 ((2192 + (8 * v1)) + v3).toNatClampNeg) - 1) v2)) (yL τ 0 ((2432 + (8 * v1)) + v3).toNatClampNeg)) v1 v2 (v3 + 1) (trivial) hR hk _ _ hB ls (lv_sub hl [4, 5, 6, 0] rfl)
        · rw [if_neg c_5] at hR hk
          refine lv_iload hx hb d_Mo_first_86 (lv_at hl 1 rfl) ?_
          refine lv_aload_n hx hb d_Mo_first_88 rfl (lv_at hl 2 rfl) ?_
          refine gt (v := .int (yn τ 5)) hC hB _ lkM_o rfl i_Mo 17 (by decide) rfl kw_908 rfl d_Mo_first_89 ?_
          refine lv_icmp_ne (tgt := 109) hx hb d_Mo_first_92 (by decide) (fun c_8 => ?_) (fun c_8 => ?_)
          · rw [if_neg c_8] at hR hk
            refine lv_iconst (v := 0) hx hb d_Mo_first_109 (by decide) ?_
            refine lv_istore (lv' := [(7, .int 0), (5, .long (yL τ 0 ((2432 + (8 * v1)) + v3).toNatClampNeg)), (4, .int (m_Mo_pageOf τ ((yL τ 0 ((2192 + (8 * v1)) + v3).toNatClampNeg) - 1) v2)), (0, .ref (G 4 0)), (1, .int v1), (2, .int v2), (3, .int v3)]) hx hb d_Mo_first_110 hl (by decide) rfl (fun ls hl => ?_)
            refine lv_iload hx hb d_Mo_first_112 (lv_at hl 2 rfl) ?_
            refine lv_iconst (v := (-1)) hx hb d_Mo_first_114 (by decide) ?_
            refine lv_icmp_eq (tgt := 135) hx hb d_Mo_first_115 (by decide) (fun c_14 => ?_) (fun c_14 => ?_)
            · rw [if_pos c_14] at hR hk
              refine lv_iinc (v := (v3 + 1)) (lv' := [(3, .int (v3 + 1)), (7, .int 0), (5, .long (yL τ 0 ((2432 + (8 * v1)) + v3).toNatClampNeg)), (4, .int (m_Mo_pageOf τ ((yL τ 0 ((2192 + (8 * v1)) + v3).toNatClampNeg) - 1) v2)), (0, .ref (G 4 0)), (1, .int v1), (2, .int v2)]) hx hb d_Mo_first_135 hl (k := 6) rfl rfl (by decide) rfl (fun ls hl => ?_)
              refine lv_goto (tgt := 12) hx hb d_Mo_first_138 (by decide) ?_
              exact ih τ v1 v2 (v3 + 1) (trivial) hR hk _ _ hB ls (lv_sub hl [4, 5, 6, 0] rfl)
            · rw [if_neg c_14] at hR hk
              refine lv_iload hx hb d_Mo_first_118 (lv_at hl 0 rfl) ?_
              refine lv_if_eq (tgt := 135) hx hb d_Mo_first_120 (by decide) (fun c_15 => ?_) (fun c_15 => absurd c_15 (by decide))
              refine lv_iinc (v := (v3 + 1)) (lv' := [(3, .int (v3 + 1)), (7, .int 0), (5, .long (yL τ 0 ((2432 + (8 * v1)) + v3).toNatClampNeg)), (4, .int (m_Mo_pageOf τ ((yL τ 0 ((2192 + (8 * v1)) + v3).toNatClampNeg) - 1) v2)), (0, .ref (G 4 0)), (1, .int v1), (2, .int v2)]) hx hb d_Mo_first_135 hl (k := 6) rfl rfl (by decide) rfl (fun ls hl => ?_)
              refine lv_goto (tgt := 12) hx hb d_Mo_first_138 (by decide) ?_
              exact ih τ v1 v2 (v3 + 1) (trivial) hR hk _ _ hB ls (lv_sub hl [4, 5, 6, 0] rfl)
          · rw [if_pos c_8] at hR hk
            refine lv_lload hx hb d_Mo_first_95 (lv_at hl 0 rfl) ?_
            refine lv_aload_n hx hb d_Mo_first_97 rfl (lv_at hl 2 rfl) ?_
            refine gt (v := .long (yp τ)) hC hB _ lkM_o rfl i_Mo 18 (by decide) rfl kw_909 rfl d_Mo_first_98 ?_
            refine W.lcmp hx hb d_Mo_first_101 ?_
            refine lv_if_ge (tgt := 109) hx hb d_Mo_first_102 (by decide) (fun c_9 => ?_) (fun c_9 => ?_)
            · rw [if_pos c_9] at hR hk
              refine lv_iconst (v := 0) hx hb d_Mo_first_109 (by decide) ?_
              refine lv_istore (lv' := [(7, .int 0), (5, .long (yL τ 0 ((2432 + (8 * v1)) + v3).toNatClampNeg)), (4, .int (m_Mo_pageOf τ ((yL τ 0 ((2192 + (8 * v1)) + v3).toNatClampNeg) - 1) v2)), (0, .ref (G 4 0)), (1, .int v1), (2, .int v2), (3, .int v3)]) hx hb d_Mo_first_110 hl (by decide) rfl (fun ls hl => ?_)
              refine lv_iload hx hb d_Mo_first_112 (lv_at hl 2 rfl) ?_
              refine lv_iconst (v := (-1)) hx hb d_Mo_first_114 (by decide) ?_
              refine lv_icmp_eq (tgt := 135) hx hb d_Mo_first_115 (by decide) (fun c_10 => ?_) (fun c_10 => ?_)
              · rw [if_pos c_10] at hR hk
                refine lv_iinc (v := (v3 + 1)) (lv' := [(3, .int (v3 + 1)), (7, .int 0), (5, .long (yL τ 0 ((2432 + (8 * v1)) + v3).toNatClampNeg)), (4, .int (m_Mo_pageOf τ ((yL τ 0 ((2192 + (8 * v1)) + v3).toNatClampNeg) - 1) v2)), (0, .ref (G 4 0)), (1, .int v1), (2, .int v2)]) hx hb d_Mo_first_135 hl (k := 6) rfl rfl (by decide) rfl (fun ls hl => ?_)
                refine lv_goto (tgt := 12) hx hb d_Mo_first_138 (by decide) ?_
                exact ih τ v1 v2 (v3 + 1) (trivial) hR hk _ _ hB ls (lv_sub hl [4, 5, 6, 0] rfl)
              · rw [if_neg c_10] at hR hk
                refine lv_iload hx hb d_Mo_first_118 (lv_at hl 0 rfl) ?_
                refine lv_if_eq (tgt := 135) hx hb d_Mo_first_120 (by decide) (fun c_11 => ?_) (fun c_11 => absurd c_11 (by decide))
                refine lv_iinc (v := (v3 + 1)) (lv' := [(3, .int (v3 + 1)), (7, .int 0), (5, .long (yL τ 0 ((2432 + (8 * v1)) + v3).toNatClampNeg)), (4, .int (m_Mo_pageOf τ ((yL τ 0 ((2192 + (8 * v1)) + v3).toNatClampNeg) - 1) v2)), (0, .ref (G 4 0)), (1, .int v1), (2, .int v2)]) hx hb d_Mo_first_135 hl (k := 6) rfl rfl (by decide) rfl (fun ls hl => ?_)
                refine lv_goto (tgt := 12) hx hb d_Mo_first_138 (by decide) ?_
                exact ih τ v1 v2 (v3 + 1) (trivial) hR hk _ _ hB ls (lv_sub hl [4, 5, 6, 0] rfl)
            · rw [if_neg c_9] at hR hk
              refine lv_iconst (v := 1) hx hb d_Mo_first_105 (by decide) ?_
              refine lv_goto (tgt := 110) hx hb d_Mo_first_106 (by decide) ?_
              refine lv_istore (lv' := [(7, .int 1), (5, .long (yL τ 0 ((2432 + (8 * v1)) + v3).toNatClampNeg)), (4, .int (m_Mo_pageOf τ ((yL τ 0 ((2192 + (8 * v1)) + v3).toNatClampNeg) - 1) v2)), (0, .ref (G 4 0)), (1, .int v1), (2, .int v2), (3, .int v3)]) hx hb d_Mo_first_110 hl (by decide) rfl (fun ls hl => ?_)
              refine lv_iload hx hb d_Mo_first_112 (lv_at hl 2 rfl) ?_
              refine lv_iconst (v := (-1)) hx hb d_Mo_first_114 (by decide) ?_
              refine lv_icmp_eq (tgt := 135) hx hb d_Mo_first_115 (by decide) (fun c_12 => ?_) (fun c_12 => ?_)
              · rw [if_pos c_12] at hR hk
                refine lv_iinc (v := (v3 + 1)) (lv' := [(3, .int (v3 + 1)), (7, .int 1), (5, .long (yL τ 0 ((2432 + (8 * v1)) + v3).toNatClampNeg)), (4, .int (m_Mo_pageOf τ ((yL τ 0 ((2192 + (8 * v1)) + v3).toNatClampNeg) - 1) v2)), (0, .ref (G 4 0)), (1, .int v1), (2, .int v2)]) hx hb d_Mo_first_135 hl (k := 6) rfl rfl (by decide) rfl (fun ls hl => ?_)
                refine lv_goto (tgt := 12) hx hb d_Mo_first_138 (by decide) ?_
                exact ih τ v1 v2 (v3 + 1) (trivial) hR hk _ _ hB ls (lv_sub hl [4, 5, 6, 0] rfl)
              · rw [if_neg c_12] at hR hk
                refine lv_iload hx hb d_Mo_first_118 (lv_at hl 0 rfl) ?_
                refine lv_if_eq (tgt := 135) hx hb d_Mo_first_120 (by decide) (fun c_13 => absurd c_13 (by decide)) (fun c_13 => ?_)
                refine lv_aload_n hx hb d_Mo_first_123 rfl (lv_at hl 3 rfl) ?_
                refine lv_iload hx hb d_Mo_first_124 (lv_at hl 2 rfl) ?_
                refine pt (ty := .int) rfl hC hB _ lkM_o rfl i_Mo t_Mo t_Mo_ok n_Mo 17 (by decide) rfl rfl kw_908 (by decide +kernel) rfl rfl (Nat.le_of_ble_eq_true rfl) d_Mo_first_126 (ws' := wsM G cI cL (wn τ 5 (m_Mo_pageOf τ ((yL τ 0 ((2192 + (8 * v1)) + v3).toNatClampNeg) - 1) v2)) rest) setM_n5 (fun H locs hB => ?_)
                refine lv_aload_n hx hb d_Mo_first_129 rfl (lv_at hl 3 rfl) ?_
                refine lv_lload hx hb d_Mo_first_130 (lv_at hl 1 rfl) ?_
                refine pt (ty := .long) rfl hC hB _ lkM_o rfl i_Mo t_Mo t_Mo_ok n_Mo 18 (by decide) rfl rfl kw_909 (by decide +kernel) rfl rfl (Nat.le_of_ble_eq_true rfl) d_Mo_first_132 (ws' := wsM G cI cL (wp (wn τ 5 (m_Mo_pageOf τ ((yL τ 0 ((2192 + (8 * v1)) + v3).toNatClampNeg) - 1) v2)) (yL τ 0 ((2432 + (8 * v1)) + v3).toNatClampNeg)) rest) setM_p (fun H locs hB => ?_)
                refine lv_iinc (v := (v3 + 1)) (lv' := [(3, .int (v3 + 1)), (7, .int 1), (5, .long (yL τ 0 ((2432 + (8 * v1)) + v3).toNatClampNeg)), (4, .int (m_Mo_pageOf τ ((yL τ 0 ((2192 + (8 * v1)) + v3).toNatClampNeg) - 1) v2)), (0, .ref (G 4 0)), (1, .int v1), (2, .int v2)]) hx hb d_Mo_first_135 hl (k := 6) rfl rfl (by decide) rfl (fun ls hl => ?_)
                refine lv_goto (tgt := 12) hx hb d_Mo_first_138 (by decide) ?_
                exact ih (wp (wn τ 5 (m_Mo_pageOf τ ((yL τ 0 ((2192 + (8 * v1)) + v3).toNatClampNeg) - 1) v2)) (yL τ 0 ((2432 + (8 * v1)) + v3).toNatClampNeg)) v1 v2 (v3 + 1) (trivial) hR hk _ _ hB ls (lv_sub hl [4, 5, 6, 0] rfl)

set_option maxHeartbeats 400000 in
set_option maxRecDepth 100000 in
theorem c_Mo_first  (τ : SM)  (x0 : Int32) (x1 : Int32) (hk : (k_Mo_first τ x0 x1) = True) : CM l y_Mo_first b_Mo_first 8 (none) { frames := 1, cells := 0, slots := 0, locals := 25 } D (tyL cI cL cQ) N0 N0 [.ref (G 4 0), .int x0, .int x1] (wsM G cI cL τ rest) (none) (fun w => w = wsM G cI cL (m_Mo_first τ x0 x1) rest) 0 0 := by
  generalize hR : m_Mo_first τ x0 x1 = RES
  refine met_of (own := R_Mo) (by decide) rfl nwl_ok ?_
  intro p e s m below meth c hC hin hB
  have hx := hC.1
  have hb := hC.2.1
  have hl := lv_entry ([.ref (G 4 0), .int x0, .int x1]) (n := 8) (Nat.le_of_ble_eq_true rfl)
  rw [lg_entry_eq]
  generalize (lg_sl ([.ref (G 4 0), .int x0, .int x1]) ++ List.replicate (8 - (lg_sl ([.ref (G 4 0), .int x0, .int x1])).length) Slot.unset).toArray = ls at hl ⊢
  have hl : lv_has ls 8 [(0, .ref (G 4 0)), (1, .int x0), (2, .int x1)] := hl
  rw [m_Mo_first] at hR
  rw [k_Mo_first] at hk
  refine lv_aload_n hx hb d_Mo_first_0 rfl (lv_at hl 0 rfl) ?_
  refine lv_iconst (v := (-1)) hx hb d_Mo_first_1 (by decide) ?_
  refine pt (ty := .int) rfl hC hB _ lkM_o rfl i_Mo t_Mo t_Mo_ok n_Mo 17 (by decide) rfl rfl kw_908 (by decide +kernel) rfl rfl (Nat.le_of_ble_eq_true rfl) d_Mo_first_2 (ws' := wsM G cI cL (wn τ 5 (-1)) rest) setM_n5 (fun H locs hB => ?_)
  refine lv_aload_n hx hb d_Mo_first_5 rfl (lv_at hl 0 rfl) ?_
  refine lv_lconst (v := 0) hx hb d_Mo_first_6 (by decide) ?_
  refine pt (ty := .long) rfl hC hB _ lkM_o rfl i_Mo t_Mo t_Mo_ok n_Mo 18 (by decide) rfl rfl kw_909 (by decide +kernel) rfl rfl (Nat.le_of_ble_eq_true rfl) d_Mo_first_7 (ws' := wsM G cI cL (wp (wn τ 5 (-1)) 0) rest) setM_p (fun H locs hB => ?_)
  refine lv_iconst (v := 0) hx hb d_Mo_first_10 (by decide) ?_
  refine lv_istore_n (lv' := [(3, .int 0), (0, .ref (G 4 0)), (1, .int x0), (2, .int x1)]) hx hb d_Mo_first_11 rfl hl (by decide) rfl (fun ls hl => ?_)
  exact w_Mo_first_12   hC 10 (wp (wn τ 5 (-1)) 0) x0 x1 0 (trivial) hR hk _ _ hB ls (lv_sub hl [1, 2, 3, 0] rfl)

set_option maxHeartbeats 400000 in
set_option maxRecDepth 100000 in
theorem w_Mo_name_112 {p : Program} {e : Env} {s : State} {m : MethodId} {args : Array Value} {below : List Frame} {meth : Method} {c : Code} {RES : Int32 × SM} (K : SM → Int32 → Int32 → Int32 → Int64 → Int32 → Int32 → Int32 × SM) (KP : SM → Int32 → Int32 → Int32 → Int64 → Int32 → Int32 → Prop)   (hC : cx D classes (tyL cI cL cQ) NWL ALLW N0 p s m args meth c b_Mo_name 11 (some .int) R_Mo) (hK : ∀ (τ : SM) (v1 : Int32) (v2 : Int32) (v3 : Int32) (v4 : Int64) (v6 : Int32) (v7 : Int32), True → K τ  v1 v2 v3 v4 v6 v7 = RES → (KP τ  v1 v2 v3 v4 v6 v7) = True → ∀ (H : Heap) (locs : List Loc), bd D classes N0 N0 (wsM G cI cL τ rest) s H locs → ∀ (ls : Array Slot), lv_has ls 11 [(0, .ref (G 4 0)), (1, .int v1), (2, .int v2), (3, .int v3), (4, .long v4), (6, .int v6), (7, .int v7)] → W p l e { frames := 5, cells := 0, slots := 0, locals := 114 } s m args below meth c H locs 0 0 (MQ below (qx D classes N0 N0 (some (.int RES.1)) (fun w => w = wsM G cI cL RES.2 rest)) args s 0 0 (ga N0)) (F0 m 62 ls [])) :
    ∀ (n : Nat) (τ : SM) (v1 : Int32) (v2 : Int32) (v3 : Int32) (v4 : Int64) (v6 : Int32) (v7 : Int32) (v8 : Int32) (v9 : Int32), upI n v8 v9 → lp_Mo_name_112 K n τ  v1 v2 v3 v4 v6 v7 v8 v9 = RES → (kl_Mo_name_112 KP n τ  v1 v2 v3 v4 v6 v7 v8 v9) = True → ∀ (H : Heap) (locs : List Loc), bd D classes N0 N0 (wsM G cI cL τ rest) s H locs → ∀ (ls : Array Slot), lv_has ls 11 [(0, .ref (G 4 0)), (1, .int v1), (2, .int v2), (3, .int v3), (4, .long v4), (6, .int v6), (7, .int v7), (8, .int v8), (9, .int v9)] → W p l e { frames := 5, cells := 0, slots := 0, locals := 114 } s m args below meth c H locs 0 0 (MQ below (qx D classes N0 N0 (some (.int RES.1)) (fun w => w = wsM G cI cL RES.2 rest)) args s 0 0 (ga N0)) (F0 m 112 ls []) := by
  obtain ⟨RV, RS⟩ := RES
  dsimp only
  have hx := hC.1
  have hb := hC.2.1
  intro n
  induction n with
  | zero =>
    intro τ v1 v2 v3 v4 v6 v7 v8 v9 hI
    exact absurd hI up_zero
  | succ n ih =>
    intro τ v1 v2 v3 v4 v6 v7 v8 v9 hI hR hk H locs hB ls hl
    rw [lp_Mo_name_112] at hR
    rw [kl_Mo_name_112] at hk
    refine lv_iload hx hb d_Mo_name_112 (lv_at hl 8 rfl) ?_
    refine lv_iload hx hb d_Mo_name_114 (lv_at hl 7 rfl) ?_
    refine lv_icmp_ge (tgt := 200) hx hb d_Mo_name_116 (by decide) (fun c_1 => ?_) (fun c_1 => ?_)
    · rw [if_pos c_1] at hR hk
      refine lv_iinc (v := (v7 + 1)) (lv' := [(7, .int (v7 + 1)), (0, .ref (G 4 0)), (1, .int v1), (2, .int v2), (3, .int v3), (4, .long v4), (6, .int v6), (8, .int v8), (9, .int v9)]) hx hb d_Mo_name_200 hl (k := 6) rfl rfl (by decide) rfl (fun ls hl => ?_)
      refine lv_goto (tgt := 62) hx hb d_Mo_name_203 (by decide) ?_
      exact hK τ v1 v2 v3 v4 v6 (v7 + 1) (trivial) hR hk _ _ hB ls (lv_sub hl [1, 2, 3, 4, 5, 6, 0] rfl)
    · rw [if_neg c_1] at hR hk
      refine lv_aload_n hx hb d_Mo_name_119 rfl (lv_at hl 0 rfl) ?_
      refine lv_iload hx hb d_Mo_name_120 (lv_at hl 6 rfl) ?_
      refine lv_iload hx hb d_Mo_name_122 (lv_at hl 8 rfl) ?_
      refine kV hC hB _ lkM_o rfl (c_Mo_first τ  v7 v9 (andL hk)) allw_ok mf_Mo_first kw_1171 ks_59 kw_1169 ⟨rfl, rfl, Nat.le_of_ble_eq_true rfl, Nat.le_of_ble_eq_true rfl⟩ rfl rfl hl.1 (Nat.le_of_ble_eq_true rfl) d_Mo_name_124 ⟨Nat.le_of_ble_eq_true rfl, Nat.le_of_ble_eq_true rfl⟩ (roK fun H locs hB => ?_)
      replace hk := andR hk
      refine lv_aload_n hx hb d_Mo_name_127 rfl (lv_at hl 0 rfl) ?_
      refine gt (v := .int (yn (m_Mo_first τ v7 v9) 5)) hC hB _ lkM_o rfl i_Mo 17 (by decide) rfl kw_908 rfl d_Mo_name_128 ?_
      refine lv_iload_n hx hb d_Mo_name_131 rfl (lv_at hl 3 rfl) ?_
      refine lv_icmp_ne (tgt := 153) hx hb d_Mo_name_132 (by decide) (fun c_2 => ?_) (fun c_2 => ?_)
      · rw [if_neg c_2] at hR hk
        refine lv_aload_n hx hb d_Mo_name_153 rfl (lv_at hl 0 rfl) ?_
        refine gt (v := .int (yn (m_Mo_first τ v7 v9) 5)) hC hB _ lkM_o rfl i_Mo 17 (by decide) rfl kw_908 rfl d_Mo_name_154 ?_
        refine lv_iload_n hx hb d_Mo_name_157 rfl (lv_at hl 3 rfl) ?_
        refine lv_icmp_ge (tgt := 176) hx hb d_Mo_name_158 (by decide) (fun c_6 => ?_) (fun c_6 => ?_)
        · rw [if_pos c_6] at hR hk
          refine lv_iconst (v := 0) hx hb d_Mo_name_176 (by decide) ?_
          refine lv_istore (lv' := [(10, .int 0), (0, .ref (G 4 0)), (1, .int v1), (2, .int v2), (3, .int v3), (4, .long v4), (6, .int v6), (7, .int v7), (8, .int v8), (9, .int v9)]) hx hb d_Mo_name_177 hl (by decide) rfl (fun ls hl => ?_)
          refine lv_iload hx hb d_Mo_name_179 (lv_at hl 6 rfl) ?_
          refine lv_iload hx hb d_Mo_name_181 (lv_at hl 0 rfl) ?_
          refine lv_if_eq (tgt := 190) hx hb d_Mo_name_183 (by decide) (fun c_7 => ?_) (fun c_7 => absurd c_7 (by decide))
          refine lv_iconst (v := 0) hx hb d_Mo_name_190 (by decide) ?_
          refine lv_iadd hx hb d_Mo_name_191 ?_
          refine lv_istore (lv' := [(6, .int (v6 + 0)), (10, .int 0), (0, .ref (G 4 0)), (1, .int v1), (2, .int v2), (3, .int v3), (4, .long v4), (7, .int v7), (8, .int v8), (9, .int v9)]) hx hb d_Mo_name_192 hl (by decide) rfl (fun ls hl => ?_)
          refine lv_iinc (v := (v9 + 1)) (lv' := [(9, .int (v9 + 1)), (6, .int (v6 + 0)), (10, .int 0), (0, .ref (G 4 0)), (1, .int v1), (2, .int v2), (3, .int v3), (4, .long v4), (7, .int v7), (8, .int v8)]) hx hb d_Mo_name_194 hl (k := 9) rfl rfl (by decide) rfl (fun ls hl => ?_)
          refine lv_goto (tgt := 112) hx hb d_Mo_name_197 (by decide) ?_
          exact ih (m_Mo_first τ v7 v9) v1 v2 v3 v4 (v6 + 0) v7 v8 (v9 + 1) (up_step hI c_1) hR hk _ _ hB ls (lv_sub hl [3, 4, 5, 6, 7, 1, 8, 9, 0] rfl)
        · rw [if_neg c_6] at hR hk
          refine lv_aload_n hx hb d_Mo_name_161 rfl (lv_at hl 0 rfl) ?_
          refine gt hC hB _ lkM_o rfl i_Mo 1 (by decide) rfl kw_892 rfl d_Mo_name_162 ?_
          refine lv_iconst (v := 5) hx hb d_Mo_name_165 (by decide) ?_
          refine va_lald hx hb hC.2.2.2.2.2.2.2.1.1 hB.1 _ 1 (lkM_l (by decide : 0 < 4)) rfl (of_eq_true (andL hk)) d_Mo_name_166 ?_
          replace hk := andR hk
          refine lv_lconst (v := 0) hx hb d_Mo_name_167 (by decide) ?_
          refine W.lcmp hx hb d_Mo_name_168 ?_
          refine lv_if_ne (tgt := 176) hx hb d_Mo_name_169 (by decide) (fun c_8 => ?_) (fun c_8 => ?_)
          · rw [if_neg c_8] at hR hk
            refine lv_iconst (v := 0) hx hb d_Mo_name_176 (by decide) ?_
            refine lv_istore (lv' := [(10, .int 0), (0, .ref (G 4 0)), (1, .int v1), (2, .int v2), (3, .int v3), (4, .long v4), (6, .int v6), (7, .int v7), (8, .int v8), (9, .int v9)]) hx hb d_Mo_name_177 hl (by decide) rfl (fun ls hl => ?_)
            refine lv_iload hx hb d_Mo_name_179 (lv_at hl 6 rfl) ?_
            refine lv_iload hx hb d_Mo_name_181 (lv_at hl 0 rfl) ?_
            refine lv_if_eq (tgt := 190) hx hb d_Mo_name_183 (by decide) (fun c_10 => ?_) (fun c_10 => absurd c_10 (by decide))
            refine lv_iconst (v := 0) hx hb d_Mo_name_190 (by decide) ?_
            refine lv_iadd hx hb d_Mo_name_191 ?_
            refine lv_istore (lv' := [(6, .int (v6 + 0)), (10, .int 0), (0, .ref (G 4 0)), (1, .int v1), (2, .int v2), (3, .int v3), (4, .long v4), (7, .int v7), (8, .int v8), (9, .int v9)]) hx hb d_Mo_name_192 hl (by decide) rfl (fun ls hl => ?_)
            refine lv_iinc (v := (v9 + 1)) (lv' := [(9, .int (v9 + 1)), (6, .int (v6 + 0)), (10, .int 0), (0, .ref (G 4 0)), (1, .int v1), (2, .int v2), (3, .int v3), (4, .long v4), (7, .int v7), (8, .int v8)]) hx hb d_Mo_name_194 hl (k := 9) rfl rfl (by decide) rfl (fun ls hl => ?_)
            refine lv_goto (tgt := 112) hx hb d_Mo_name_197 (by decide) ?_
            exact ih (m_Mo_first τ v7 v9) v1 v2 v3 v4 (v6 + 0) v7 v8 (v9 + 1) (up_step hI c_1) hR hk _ _ hB ls (lv_sub hl [3, 4, 5, 6, 7, 1, 8, 9, 0] rfl)
          · rw [if_pos c_8] at hR hk
            refine lv_iconst (v := 1) hx hb d_Mo_name_172 (by decide) ?_
            refine lv_goto (tgt := 177) hx hb d_Mo_name_173 (by decide) ?_
            refine lv_istore (lv' := [(10, .int 1), (0, .ref (G 4 0)), (1, .int v1), (2, .int v2), (3, .int v3), (4, .long v4), (6, .int v6), (7, .int v7), (8, .int v8), (9, .int v9)]) hx hb d_Mo_name_177 hl (by decide) rfl (fun ls hl => ?_)
            refine lv_iload hx hb d_Mo_name_179 (lv_at hl 6 rfl) ?_
            refine lv_iload hx hb d_Mo_name_181 (lv_at hl 0 rfl) ?_
            refine lv_if_eq (tgt := 190) hx hb d_Mo_name_183 (by decide) (fun c_9 => absurd c_9 (by decide)) (fun c_9 => ?_)
            refine lv_iconst (v := 1) hx hb d_Mo_name_186 (by decide) ?_
            refine lv_goto (tgt := 191) hx hb d_Mo_name_187 (by decide) ?_
            refine lv_iadd hx hb d_Mo_name_191 ?_
            refine lv_istore (lv' := [(6, .int (v6 + 1)), (10, .int 1), (0, .ref (G 4 0)), (1, .int v1), (2, .int v2), (3, .int v3), (4, .long v4), (7, .int v7), (8, .int v8), (9, .int v9)]) hx hb d_Mo_name_192 hl (by decide) rfl (fun ls hl => ?_)
            refine lv_iinc (v := (v9 + 1)) (lv' := [(9, .int (v9 + 1)), (6, .int (v6 + 1)), (10, .int 1), (0, .ref (G 4 0)), (1, .int v1), (2, .int v2), (3, .int v3), (4, .long v4), (7, .int v7), (8, .int v8)]) hx hb d_Mo_name_194 hl (k := 9) rfl rfl (by decide) rfl (fun ls hl => ?_)
            refine lv_goto (tgt := 112) hx hb d_Mo_name_197 (by decide) ?_
            exact ih (m_Mo_first τ v7 v9) v1 v2 v3 v4 (v6 + 1) v7 v8 (v9 + 1) (up_step hI c_1) hR hk _ _ hB ls (lv_sub hl [3, 4, 5, 6, 7, 1, 8, 9, 0] rfl)
      · rw [if_pos c_2] at hR hk
        refine lv_aload_n hx hb d_Mo_name_135 rfl (lv_at hl 0 rfl) ?_
        refine gt (v := .long (yp (m_Mo_first τ v7 v9))) hC hB _ lkM_o rfl i_Mo 18 (by decide) rfl kw_909 rfl d_Mo_name_136 ?_
        refine lv_lload hx hb d_Mo_name_139 (lv_at hl 4 rfl) ?_
        refine W.lcmp hx hb d_Mo_name_141 ?_
        refine lv_if_ge (tgt := 149) hx hb d_Mo_name_142 (by decide) (fun c_3 => ?_) (fun c_3 => ?_)
        · rw [if_pos c_3] at hR hk
          refine lv_iconst (v := 0) hx hb d_Mo_name_149 (by decide) ?_
          refine lv_goto (tgt := 177) hx hb d_Mo_name_150 (by decide) ?_
          refine lv_istore (lv' := [(10, .int 0), (0, .ref (G 4 0)), (1, .int v1), (2, .int v2), (3, .int v3), (4, .long v4), (6, .int v6), (7, .int v7), (8, .int v8), (9, .int v9)]) hx hb d_Mo_name_177 hl (by decide) rfl (fun ls hl => ?_)
          refine lv_iload hx hb d_Mo_name_179 (lv_at hl 6 rfl) ?_
          refine lv_iload hx hb d_Mo_name_181 (lv_at hl 0 rfl) ?_
          refine lv_if_eq (tgt := 190) hx hb d_Mo_name_183 (by decide) (fun c_4 => ?_) (fun c_4 => absurd c_4 (by decide))
          refine lv_iconst (v := 0) hx hb d_Mo_name_190 (by decide) ?_
          refine lv_iadd hx hb d_Mo_name_191 ?_
          refine lv_istore (lv' := [(6, .int (v6 + 0)), (10, .int 0), (0, .ref (G 4 0)), (1, .int v1), (2, .int v2), (3, .int v3), (4, .long v4), (7, .int v7), (8, .int v8), (9, .int v9)]) hx hb d_Mo_name_192 hl (by decide) rfl (fun ls hl => ?_)
          refine lv_iinc (v := (v9 + 1)) (lv' := [(9, .int (v9 + 1)), (6, .int (v6 + 0)), (10, .int 0), (0, .ref (G 4 0)), (1, .int v1), (2, .int v2), (3, .int v3), (4, .long v4), (7, .int v7), (8, .int v8)]) hx hb d_Mo_name_194 hl (k := 9) rfl rfl (by decide) rfl (fun ls hl => ?_)
          refine lv_goto (tgt := 112) hx hb d_Mo_name_197 (by decide) ?_
          exact ih (m_Mo_first τ v7 v9) v1 v2 v3 v4 (v6 + 0) v7 v8 (v9 + 1) (up_step hI c_1) hR hk _ _ hB ls (lv_sub hl [3, 4, 5, 6, 7, 1, 8, 9, 0] rfl)
        · rw [if_neg c_3] at hR hk
          refine lv_iconst (v := 1) hx hb d_Mo_name_145 (by decide) ?_
          refine lv_goto (tgt := 177) hx hb d_Mo_name_146 (by decide) ?_
          refine lv_istore (lv' := [(10, .int 1), (0, .ref (G 4 0)), (1, .int v1), (2, .int v2), (3, .int v3), (4, .long v4), (6, .int v6), (7, .int v7), (8, .int v8), (9, .int v9)]) hx hb d_Mo_name_177 hl (by decide) rfl (fun ls hl => ?_)
          refine lv_iload hx hb d_Mo_name_179 (lv_at hl 6 rfl) ?_
          refine lv_iload hx hb d_Mo_name_181 (lv_at hl 0 rfl) ?_
          refine lv_if_eq (tgt := 190) hx hb d_Mo_name_183 (by decide) (fun c_5 => absurd c_5 (by decide)) (fun c_5 => ?_)
          refine lv_iconst (v := 1) hx hb d_Mo_name_186 (by decide) ?_
          refine lv_goto (tgt := 191) hx hb d_Mo_name_187 (by decide) ?_
          refine lv_iadd hx hb d_Mo_name_191 ?_
          refine lv_istore (lv' := [(6, .int (v6 + 1)), (10, .int 1), (0, .ref (G 4 0)), (1, .int v1), (2, .int v2), (3, .int v3), (4, .long v4), (7, .int v7), (8, .int v8), (9, .int v9)]) hx hb d_Mo_name_192 hl (by decide) rfl (fun ls hl => ?_)
          refine lv_iinc (v := (v9 + 1)) (lv' := [(9, .int (v9 + 1)), (6, .int (v6 + 1)), (10, .int 1), (0, .ref (G 4 0)), (1, .int v1), (2, .int v2), (3, .int v3), (4, .long v4), (7, .int v7), (8, .int v8)]) hx hb d_Mo_name_194 hl (k := 9) rfl rfl (by decide) rfl (fun ls hl => ?_)
          refine lv_goto (tgt := 112) hx hb d_Mo_name_197 (by decide) ?_
          exact ih (m_Mo_first τ v7 v9) v1 v2 v3 v4 (v6 + 1) v7 v8 (v9 + 1) (up_step hI c_1) hR hk _ _ hB ls (lv_sub hl [3, 4, 5, 6, 7, 1, 8, 9, 0] rfl)

set_option maxHeartbeats 400000 in
set_option maxRecDepth 100000 in
theorem w_Mo_name_62 {p : Program} {e : Env} {s : State} {m : MethodId} {args : Array Value} {below : List Frame} {meth : Method} {c : Code} {RES : Int32 × SM}   (hC : cx D classes (tyL cI cL cQ) NWL ALLW N0 p s m args meth c b_Mo_name 11 (some .int) R_Mo) :
    ∀ (n : Nat) (τ : SM) (v1 : Int32) (v2 : Int32) (v3 : Int32) (v4 : Int64) (v6 : Int32) (v7 : Int32), True → lp_Mo_name_62 n τ  v1 v2 v3 v4 v6 v7 = RES → (kl_Mo_name_62 n τ  v1 v2 v3 v4 v6 v7) = True → ∀ (H : Heap) (locs : List Loc), bd D classes N0 N0 (wsM G cI cL τ rest) s H locs → ∀ (ls : Array Slot), lv_has ls 11 [(0, .ref (G 4 0)), (1, .int v1), (2, .int v2), (3, .int v3), (4, .long v4), (6, .int v6), (7, .int v7)] → W p l e { frames := 5, cells := 0, slots := 0, locals := 114 } s m args below meth c H locs 0 0 (MQ below (qx D classes N0 N0 (some (.int RES.1)) (fun w => w = wsM G cI cL RES.2 rest)) args s 0 0 (ga N0)) (F0 m 62 ls []) := by
  obtain ⟨RV, RS⟩ := RES
  dsimp only
  have hx := hC.1
  have hb := hC.2.1
  intro n
  induction n with
  | zero =>
    intro τ v1 v2 v3 v4 v6 v7 hI hR hk
    exact False.elim (of_eq_true hk)
  | succ n ih =>
    intro τ v1 v2 v3 v4 v6 v7 hI hR hk H locs hB ls hl
    rw [lp_Mo_name_62] at hR
    rw [kl_Mo_name_62] at hk
    refine lv_iload hx hb d_Mo_name_62 (lv_at hl 6 rfl) ?_
    refine lv_aload_n hx hb d_Mo_name_64 rfl (lv_at hl 0 rfl) ?_
    refine lv_iconst (v := 2) hx hb d_Mo_name_65 (by decide) ?_
    refine kV hC hB _ lkM_o rfl (c_Mo_count τ  2 (andL hk)) allw_ok mf_Mo_count kw_963 ks_29 kw_961 ⟨rfl, rfl, Nat.le_of_ble_eq_true rfl, Nat.le_of_ble_eq_true rfl⟩ rfl rfl hl.1 (Nat.le_of_ble_eq_true rfl) d_Mo_name_66 ⟨Nat.le_of_ble_eq_true rfl, Nat.le_of_ble_eq_true rfl⟩ (roK fun H locs hB => ?_)
    replace hk := andR hk
    refine lv_icmp_ge (tgt := 206) hx hb d_Mo_name_69 (by decide) (fun c_1 => ?_) (fun c_1 => ?_)
    · rw [if_pos c_1] at hR hk
      refine lv_aload_n hx hb d_Mo_name_206 rfl (lv_at hl 0 rfl) ?_
      refine gt hC hB _ lkM_o rfl i_Mo 1 (by decide) rfl kw_892 rfl d_Mo_name_207 ?_
      refine lv_sipush (v := 2132) hx hb d_Mo_name_210 (by decide) ?_
      refine lv_iload_n hx hb d_Mo_name_213 rfl (lv_at hl 1 rfl) ?_
      refine lv_iadd hx hb d_Mo_name_214 ?_
      refine va_lald hx hb hC.2.2.2.2.2.2.2.1.1 hB.1 _ 1 (lkM_l (by decide : 0 < 4)) rfl (of_eq_true (andL hk)) d_Mo_name_215 ?_
      replace hk := andR hk
      refine lv_l2i hx hb d_Mo_name_216 rfl ?_
      refine lv_sipush (v := 10000) hx hb d_Mo_name_217 (by decide) ?_
      refine lv_imul hx hb d_Mo_name_220 ?_
      refine lv_aload_n hx hb d_Mo_name_221 rfl (lv_at hl 0 rfl) ?_
      refine gt hC hB _ lkM_o rfl i_Mo 1 (by decide) rfl kw_892 rfl d_Mo_name_222 ?_
      refine lv_iconst (v := 5) hx hb d_Mo_name_225 (by decide) ?_
      refine va_lald hx hb hC.2.2.2.2.2.2.2.1.1 hB.1 _ 1 (lkM_l (by decide : 0 < 4)) rfl (of_eq_true (andL hk)) d_Mo_name_226 ?_
      replace hk := andR hk
      refine lv_lconst (v := 0) hx hb d_Mo_name_227 (by decide) ?_
      refine W.lcmp hx hb d_Mo_name_228 ?_
      refine lv_if_ne (tgt := 237) hx hb d_Mo_name_229 (by decide) (fun c_2 => ?_) (fun c_2 => ?_)
      · rw [if_neg c_2] at hR hk
        refine lv_bipush (v := 100) hx hb d_Mo_name_237 (by decide) ?_
        refine lv_iload_n hx hb d_Mo_name_239 rfl (lv_at hl 3 rfl) ?_
        refine lv_imul hx hb d_Mo_name_240 ?_
        refine lv_iload hx hb d_Mo_name_241 (lv_at hl 5 rfl) ?_
        refine lv_iadd hx hb d_Mo_name_243 ?_
        refine lv_iadd hx hb d_Mo_name_244 ?_
        obtain ⟨rfl, rfl⟩ := Prod.mk.inj hR
        exact ri hC hB rfl d_Mo_name_245
      · rw [if_pos c_2] at hR hk
        refine lv_iload hx hb d_Mo_name_232 (lv_at hl 5 rfl) ?_
        refine lv_goto (tgt := 244) hx hb d_Mo_name_234 (by decide) ?_
        refine lv_iadd hx hb d_Mo_name_244 ?_
        obtain ⟨rfl, rfl⟩ := Prod.mk.inj hR
        exact ri hC hB rfl d_Mo_name_245
    · rw [if_neg c_1] at hR hk
      refine lv_aload_n hx hb d_Mo_name_72 rfl (lv_at hl 0 rfl) ?_
      refine gt hC hB _ lkM_o rfl i_Mo 1 (by decide) rfl kw_892 rfl d_Mo_name_73 ?_
      refine lv_sipush (v := 2132) hx hb d_Mo_name_76 (by decide) ?_
      refine lv_iload hx hb d_Mo_name_79 (lv_at hl 6 rfl) ?_
      refine lv_iadd hx hb d_Mo_name_81 ?_
      refine va_lald hx hb hC.2.2.2.2.2.2.2.1.1 hB.1 _ 1 (lkM_l (by decide : 0 < 4)) rfl (of_eq_true (andL hk)) d_Mo_name_82 ?_
      replace hk := andR hk
      refine lv_aload_n hx hb d_Mo_name_83 rfl (lv_at hl 0 rfl) ?_
      refine gt hC hB _ lkM_o rfl i_Mo 1 (by decide) rfl kw_892 rfl d_Mo_name_84 ?_
      refine lv_sipush (v := 2132) hx hb d_Mo_name_87 (by decide) ?_
      refine lv_iload_n hx hb d_Mo_name_90 rfl (lv_at hl 1 rfl) ?_
      refine lv_iadd hx hb d_Mo_name_91 ?_
      refine va_lald hx hb hC.2.2.2.2.2.2.2.1.1 hB.1 _ 1 (lkM_l (by decide : 0 < 4)) rfl (of_eq_true (andL hk)) d_Mo_name_92 ?_
      replace hk := andR hk
      refine W.lcmp hx hb d_Mo_name_93 ?_
      refine lv_if_ne (tgt := 106) hx hb d_Mo_name_94 (by decide) (fun c_3 => ?_) (fun c_3 => ?_)
      · rw [if_neg c_3] at hR hk
        refine lv_iconst (v := 0) hx hb d_Mo_name_106 (by decide) ?_
        refine lv_istore (lv' := [(8, .int 0), (0, .ref (G 4 0)), (1, .int v1), (2, .int v2), (3, .int v3), (4, .long v4), (6, .int v6), (7, .int v7)]) hx hb d_Mo_name_107 hl (by decide) rfl (fun ls hl => ?_)
        refine lv_iconst (v := 0) hx hb d_Mo_name_109 (by decide) ?_
        refine lv_istore (lv' := [(9, .int 0), (8, .int 0), (0, .ref (G 4 0)), (1, .int v1), (2, .int v2), (3, .int v3), (4, .long v4), (6, .int v6), (7, .int v7)]) hx hb d_Mo_name_110 hl (by decide) rfl (fun ls hl => ?_)
        exact w_Mo_name_112 (lp_Mo_name_62 n) (kl_Mo_name_62 n)   hC ih ((0 : Int32).toNatClampNeg + 1) τ v1 v2 v3 v4 v6 v7 0 0 (up_init _) hR hk _ _ hB ls (lv_sub hl [2, 3, 4, 5, 6, 7, 8, 1, 0] rfl)
      · rw [if_pos c_3] at hR hk
        refine lv_aload_n hx hb d_Mo_name_97 rfl (lv_at hl 0 rfl) ?_
        refine lv_iload hx hb d_Mo_name_98 (lv_at hl 6 rfl) ?_
        refine kV hC hB _ lkM_o rfl (c_Mo_unitsOf τ  v7 (andL hk)) allw_ok mf_Mo_unitsOf kw_1155 ks_57 kw_1153 ⟨rfl, rfl, Nat.le_of_ble_eq_true rfl, Nat.le_of_ble_eq_true rfl⟩ rfl rfl hl.1 (Nat.le_of_ble_eq_true rfl) d_Mo_name_100 ⟨Nat.le_of_ble_eq_true rfl, Nat.le_of_ble_eq_true rfl⟩ (roK fun H locs hB => ?_)
        replace hk := andR hk
        refine lv_goto (tgt := 107) hx hb d_Mo_name_103 (by decide) ?_
        refine lv_istore (lv' := [(8, .int ((m_Mo_unitsOf τ v7).1)), (0, .ref (G 4 0)), (1, .int v1), (2, .int v2), (3, .int v3), (4, .long v4), (6, .int v6), (7, .int v7)]) hx hb d_Mo_name_107 hl (by decide) rfl (fun ls hl => ?_)
        refine lv_iconst (v := 0) hx hb d_Mo_name_109 (by decide) ?_
        refine lv_istore (lv' := [(9, .int 0), (8, .int ((m_Mo_unitsOf τ v7).1)), (0, .ref (G 4 0)), (1, .int v1), (2, .int v2), (3, .int v3), (4, .long v4), (6, .int v6), (7, .int v7)]) hx hb d_Mo_name_110 hl (by decide) rfl (fun ls hl => ?_)
        exact w_Mo_name_112 (lp_Mo_name_62 n) (kl_Mo_name_62 n)   hC ih (((m_Mo_unitsOf τ v7).1).toNatClampNeg + 1) ((m_Mo_unitsOf τ v7).2) v1 v2 v3 v4 v6 v7 ((m_Mo_unitsOf τ v7).1) 0 (up_init _) hR hk _ _ hB ls (lv_sub hl [2, 3, 4, 5, 6, 7, 8, 1, 0] rfl)

set_option maxHeartbeats 400000 in
set_option maxRecDepth 100000 in
theorem c_Mo_name  (τ : SM)  (x0 : Int32) (x1 : Int32) (hk : (k_Mo_name τ x0 x1) = True) : CM l y_Mo_name b_Mo_name 11 (some .int) { frames := 5, cells := 0, slots := 0, locals := 114 } D (tyL cI cL cQ) N0 N0 [.ref (G 4 0), .int x0, .int x1] (wsM G cI cL τ rest) (some (.int ((m_Mo_name τ x0 x1).1))) (fun w => w = wsM G cI cL ((m_Mo_name τ x0 x1).2) rest) 0 0 := by
  generalize hR : m_Mo_name τ x0 x1 = RES
  obtain ⟨RV, RS⟩ := RES
  dsimp only
  refine met_of (own := R_Mo) (by decide) rfl nwl_ok ?_
  intro p e s m below meth c hC hin hB
  have hx := hC.1
  have hb := hC.2.1
  have hl := lv_entry ([.ref (G 4 0), .int x0, .int x1]) (n := 11) (Nat.le_of_ble_eq_true rfl)
  rw [lg_entry_eq]
  generalize (lg_sl ([.ref (G 4 0), .int x0, .int x1]) ++ List.replicate (11 - (lg_sl ([.ref (G 4 0), .int x0, .int x1])).length) Slot.unset).toArray = ls at hl ⊢
  have hl : lv_has ls 11 [(0, .ref (G 4 0)), (1, .int x0), (2, .int x1)] := hl
  rw [m_Mo_name] at hR
  rw [k_Mo_name] at hk
  refine lv_aload_n hx hb d_Mo_name_0 rfl (lv_at hl 0 rfl) ?_
  refine lv_aload_n hx hb d_Mo_name_1 rfl (lv_at hl 0 rfl) ?_
  refine lv_iload_n hx hb d_Mo_name_2 rfl (lv_at hl 1 rfl) ?_
  refine kV hC hB _ lkM_o rfl (c_Mo_isPart τ  x0 (andL hk)) allw_ok mf_Mo_isPart kw_1063 ks_44 kw_1061 ⟨rfl, rfl, Nat.le_of_ble_eq_true rfl, Nat.le_of_ble_eq_true rfl⟩ rfl rfl hl.1 (Nat.le_of_ble_eq_true rfl) d_Mo_name_3 ⟨Nat.le_of_ble_eq_true rfl, Nat.le_of_ble_eq_true rfl⟩ (roK fun H locs hB => ?_)
  replace hk := andR hk
  refine lv_if_eq (tgt := 26) hx hb d_Mo_name_6 (by decide) (fun c_1 => ?_) (fun c_1 => ?_)
  · rw [if_pos c_1] at hR hk
    refine lv_iconst (v := 1) hx hb d_Mo_name_26 (by decide) ?_
    refine pt (ty := .int) rfl hC hB _ lkM_o rfl i_Mo t_Mo t_Mo_ok n_Mo 0 (by decide) rfl rfl kw_891 (by decide +kernel) rfl rfl (Nat.le_of_ble_eq_true rfl) d_Mo_name_27 (ws' := wsM G cI cL (wn τ 0 1) rest) setM_n0 (fun H locs hB => ?_)
    refine lv_aload_n hx hb d_Mo_name_30 rfl (lv_at hl 0 rfl) ?_
    refine gt (v := .int 1) hC hB _ lkM_o rfl i_Mo 0 (by decide) rfl kw_891 rfl d_Mo_name_31 ?_
    refine lv_if_eq (tgt := 39) hx hb d_Mo_name_34 (by decide) (fun c_2 => absurd c_2 (by decide)) (fun c_2 => ?_)
    refine lv_iconst (v := 0) hx hb d_Mo_name_37 (by decide) ?_
    obtain ⟨rfl, rfl⟩ := Prod.mk.inj hR
    exact ri hC hB rfl d_Mo_name_38
  · rw [if_neg c_1] at hR hk
    refine lv_iload_n hx hb d_Mo_name_9 rfl (lv_at hl 2 rfl) ?_
    refine lv_if_lt (tgt := 26) hx hb d_Mo_name_10 (by decide) (fun c_3 => ?_) (fun c_3 => ?_)
    · rw [if_pos c_3] at hR hk
      refine lv_iconst (v := 1) hx hb d_Mo_name_26 (by decide) ?_
      refine pt (ty := .int) rfl hC hB _ lkM_o rfl i_Mo t_Mo t_Mo_ok n_Mo 0 (by decide) rfl rfl kw_891 (by decide +kernel) rfl rfl (Nat.le_of_ble_eq_true rfl) d_Mo_name_27 (ws' := wsM G cI cL (wn τ 0 1) rest) setM_n0 (fun H locs hB => ?_)
      refine lv_aload_n hx hb d_Mo_name_30 rfl (lv_at hl 0 rfl) ?_
      refine gt (v := .int 1) hC hB _ lkM_o rfl i_Mo 0 (by decide) rfl kw_891 rfl d_Mo_name_31 ?_
      refine lv_if_eq (tgt := 39) hx hb d_Mo_name_34 (by decide) (fun c_4 => absurd c_4 (by decide)) (fun c_4 => ?_)
      refine lv_iconst (v := 0) hx hb d_Mo_name_37 (by decide) ?_
      obtain ⟨rfl, rfl⟩ := Prod.mk.inj hR
      exact ri hC hB rfl d_Mo_name_38
    · rw [if_neg c_3] at hR hk
      refine lv_iload_n hx hb d_Mo_name_13 rfl (lv_at hl 2 rfl) ?_
      refine lv_aload_n hx hb d_Mo_name_14 rfl (lv_at hl 0 rfl) ?_
      refine lv_iload_n hx hb d_Mo_name_15 rfl (lv_at hl 1 rfl) ?_
      refine kV hC hB _ lkM_o rfl (c_Mo_unitsOf τ  x0 (andL hk)) allw_ok mf_Mo_unitsOf kw_1155 ks_57 kw_1153 ⟨rfl, rfl, Nat.le_of_ble_eq_true rfl, Nat.le_of_ble_eq_true rfl⟩ rfl rfl hl.1 (Nat.le_of_ble_eq_true rfl) d_Mo_name_16 ⟨Nat.le_of_ble_eq_true rfl, Nat.le_of_ble_eq_true rfl⟩ (roK fun H locs hB => ?_)
      replace hk := andR hk
      refine lv_icmp_ge (tgt := 26) hx hb d_Mo_name_19 (by decide) (fun c_5 => ?_) (fun c_5 => ?_)
      · rw [if_pos c_5] at hR hk
        refine lv_iconst (v := 1) hx hb d_Mo_name_26 (by decide) ?_
        refine pt (ty := .int) rfl hC hB _ lkM_o rfl i_Mo t_Mo t_Mo_ok n_Mo 0 (by decide) rfl rfl kw_891 (by decide +kernel) rfl rfl (Nat.le_of_ble_eq_true rfl) d_Mo_name_27 (ws' := wsM G cI cL (wn ((m_Mo_unitsOf τ x0).2) 0 1) rest) setM_n0 (fun H locs hB => ?_)
        refine lv_aload_n hx hb d_Mo_name_30 rfl (lv_at hl 0 rfl) ?_
        refine gt (v := .int 1) hC hB _ lkM_o rfl i_Mo 0 (by decide) rfl kw_891 rfl d_Mo_name_31 ?_
        refine lv_if_eq (tgt := 39) hx hb d_Mo_name_34 (by decide) (fun c_6 => absurd c_6 (by decide)) (fun c_6 => ?_)
        refine lv_iconst (v := 0) hx hb d_Mo_name_37 (by decide) ?_
        obtain ⟨rfl, rfl⟩ := Prod.mk.inj hR
        exact ri hC hB rfl d_Mo_name_38
      · rw [if_neg c_5] at hR hk
        refine lv_iconst (v := 0) hx hb d_Mo_name_22 (by decide) ?_
        refine lv_goto (tgt := 27) hx hb d_Mo_name_23 (by decide) ?_
        refine pt (ty := .int) rfl hC hB _ lkM_o rfl i_Mo t_Mo t_Mo_ok n_Mo 0 (by decide) rfl rfl kw_891 (by decide +kernel) rfl rfl (Nat.le_of_ble_eq_true rfl) d_Mo_name_27 (ws' := wsM G cI cL (wn ((m_Mo_unitsOf τ x0).2) 0 0) rest) setM_n0 (fun H locs hB => ?_)
        refine lv_aload_n hx hb d_Mo_name_30 rfl (lv_at hl 0 rfl) ?_
        refine gt (v := .int 0) hC hB _ lkM_o rfl i_Mo 0 (by decide) rfl kw_891 rfl d_Mo_name_31 ?_
        refine lv_if_eq (tgt := 39) hx hb d_Mo_name_34 (by decide) (fun c_7 => ?_) (fun c_7 => absurd c_7 (by decide))
        refine lv_aload_n hx hb d_Mo_name_39 rfl (lv_at hl 0 rfl) ?_
        refine lv_iload_n hx hb d_Mo_name_40 rfl (lv_at hl 1 rfl) ?_
        refine lv_iload_n hx hb d_Mo_name_41 rfl (lv_at hl 2 rfl) ?_
        refine kV hC hB _ lkM_o rfl (c_Mo_first (wn ((m_Mo_unitsOf τ x0).2) 0 0)  x0 x1 (andL hk)) allw_ok mf_Mo_first kw_1171 ks_59 kw_1169 ⟨rfl, rfl, Nat.le_of_ble_eq_true rfl, Nat.le_of_ble_eq_true rfl⟩ rfl rfl hl.1 (Nat.le_of_ble_eq_true rfl) d_Mo_name_42 ⟨Nat.le_of_ble_eq_true rfl, Nat.le_of_ble_eq_true rfl⟩ (roK fun H locs hB => ?_)
        replace hk := andR hk
        refine lv_aload_n hx hb d_Mo_name_45 rfl (lv_at hl 0 rfl) ?_
        refine gt (v := .int (yn (m_Mo_first (wn ((m_Mo_unitsOf τ x0).2) 0 0) x0 x1) 5)) hC hB _ lkM_o rfl i_Mo 17 (by decide) rfl kw_908 rfl d_Mo_name_46 ?_
        refine lv_istore_n (lv' := [(3, .int (yn (m_Mo_first (wn ((m_Mo_unitsOf τ x0).2) 0 0) x0 x1) 5)), (0, .ref (G 4 0)), (1, .int x0), (2, .int x1)]) hx hb d_Mo_name_49 rfl hl (by decide) rfl (fun ls hl => ?_)
        refine lv_aload_n hx hb d_Mo_name_50 rfl (lv_at hl 1 rfl) ?_
        refine gt (v := .long (yp (m_Mo_first (wn ((m_Mo_unitsOf τ x0).2) 0 0) x0 x1))) hC hB _ lkM_o rfl i_Mo 18 (by decide) rfl kw_909 rfl d_Mo_name_51 ?_
        refine lv_lstore (lv' := [(4, .long (yp (m_Mo_first (wn ((m_Mo_unitsOf τ x0).2) 0 0) x0 x1))), (3, .int (yn (m_Mo_first (wn ((m_Mo_unitsOf τ x0).2) 0 0) x0 x1) 5)), (0, .ref (G 4 0)), (1, .int x0), (2, .int x1)]) hx hb d_Mo_name_54 hl (by decide) rfl (fun ls hl => ?_)
        refine lv_iconst (v := 1) hx hb d_Mo_name_56 (by decide) ?_
        refine lv_istore (lv' := [(6, .int 1), (4, .long (yp (m_Mo_first (wn ((m_Mo_unitsOf τ x0).2) 0 0) x0 x1))), (3, .int (yn (m_Mo_first (wn ((m_Mo_unitsOf τ x0).2) 0 0) x0 x1) 5)), (0, .ref (G 4 0)), (1, .int x0), (2, .int x1)]) hx hb d_Mo_name_57 hl (by decide) rfl (fun ls hl => ?_)
        refine lv_iconst (v := 0) hx hb d_Mo_name_59 (by decide) ?_
        refine lv_istore (lv' := [(7, .int 0), (6, .int 1), (4, .long (yp (m_Mo_first (wn ((m_Mo_unitsOf τ x0).2) 0 0) x0 x1))), (3, .int (yn (m_Mo_first (wn ((m_Mo_unitsOf τ x0).2) 0 0) x0 x1) 5)), (0, .ref (G 4 0)), (1, .int x0), (2, .int x1)]) hx hb d_Mo_name_60 hl (by decide) rfl (fun ls hl => ?_)
        exact w_Mo_name_62   hC 32 (m_Mo_first (wn ((m_Mo_unitsOf τ x0).2) 0 0) x0 x1) x0 x1 (yn (m_Mo_first (wn ((m_Mo_unitsOf τ x0).2) 0 0) x0 x1) 5) (yp (m_Mo_first (wn ((m_Mo_unitsOf τ x0).2) 0 0) x0 x1)) 1 0 (trivial) hR hk _ _ hB ls (lv_sub hl [4, 5, 6, 3, 2, 1, 0] rfl)

set_option maxHeartbeats 400000 in
set_option maxRecDepth 100000 in
theorem w_Mo_copy_241 {p : Program} {e : Env} {s : State} {m : MethodId} {args : Array Value} {below : List Frame} {meth : Method} {c : Code} {RES : Int32 × SM}   (hC : cx D classes (tyL cI cL cQ) NWL ALLW N0 p s m args meth c b_Mo_copy 6 (some .int) R_Mo) :
    ∀ (n : Nat) (τ : SM) (v1 : Int32) (v2 : Int32) (v3 : Int32) (v4 : Int32), True → lp_Mo_copy_241 n τ  v1 v2 v3 v4 = RES → (kl_Mo_copy_241 n τ  v1 v2 v3 v4) = True → ∀ (H : Heap) (locs : List Loc), bd D classes N0 N0 (wsM G cI cL τ rest) s H locs → ∀ (ls : Array Slot), lv_has ls 6 [(0, .ref (G 4 0)), (1, .int v1), (2, .int v2), (3, .int v3), (4, .int v4)] → W p l e { frames := 2, cells := 0, slots := 0, locals := 47 } s m args below meth c H locs 0 0 (MQ below (qx D classes N0 N0 (some (.int RES.1)) (fun w => w = wsM G cI cL RES.2 rest)) args s 0 0 (ga N0)) (F0 m 241 ls []) := by
  obtain ⟨RV, RS⟩ := RES
  dsimp only
  have hx := hC.1
  have hb := hC.2.1
  intro n
  induction n with
  | zero =>
    intro τ v1 v2 v3 v4 hI hR hk
    exact False.elim (of_eq_true hk)
  | succ n ih =>
    intro τ v1 v2 v3 v4 hI hR hk H locs hB ls hl
    rw [lp_Mo_copy_241] at hR
    rw [kl_Mo_copy_241] at hk
    refine lv_iload hx hb d_Mo_copy_241 (lv_at hl 4 rfl) ?_
    refine lv_iconst (v := (-1)) hx hb d_Mo_copy_243 (by decide) ?_
    refine lv_icmp_eq (tgt := 340) hx hb d_Mo_copy_244 (by decide) (fun c_1 => ?_) (fun c_1 => ?_)
    · rw [if_pos c_1] at hR hk
      refine lv_aload_n hx hb d_Mo_copy_340 rfl (lv_at hl 0 rfl) ?_
      refine kV hC hB _ lkM_o rfl (c_Mo_done τ  (andL hk)) allw_ok mf_Mo_done kw_971 ks_31 kw_969 ⟨rfl, rfl, Nat.le_of_ble_eq_true rfl, Nat.le_of_ble_eq_true rfl⟩ rfl rfl hl.1 (Nat.le_of_ble_eq_true rfl) d_Mo_copy_341 ⟨Nat.le_of_ble_eq_true rfl, Nat.le_of_ble_eq_true rfl⟩ (roK fun H locs hB => ?_)
      replace hk := andR hk
      refine lv_iload_n hx hb d_Mo_copy_344 rfl (lv_at hl 2 rfl) ?_
      obtain ⟨rfl, rfl⟩ := Prod.mk.inj hR
      exact ri hC hB rfl d_Mo_copy_345
    · rw [if_neg c_1] at hR hk
      refine lv_iload hx hb d_Mo_copy_247 (lv_at hl 4 rfl) ?_
      refine lv_bipush (v := 8) hx hb d_Mo_copy_249 (by decide) ?_
      refine lv_idiv hx hb d_Mo_copy_251 (by decide) ?_
      refine lv_istore (lv' := [(5, .int (v4 / 8)), (0, .ref (G 4 0)), (1, .int v1), (2, .int v2), (3, .int v3), (4, .int v4)]) hx hb d_Mo_copy_252 hl (by decide) rfl (fun ls hl => ?_)
      refine lv_aload_n hx hb d_Mo_copy_254 rfl (lv_at hl 1 rfl) ?_
      refine gt hC hB _ lkM_o rfl i_Mo 16 (by decide) rfl kw_907 rfl d_Mo_copy_255 ?_
      refine lv_iload hx hb d_Mo_copy_258 (lv_at hl 0 rfl) ?_
      refine va_iald hx hb hC.2.2.2.2.2.2.2.1.1 hB.1 _ 0 (lkM_i (by decide : 6 < 7)) rfl (of_eq_true (andL hk)) d_Mo_copy_260 ?_
      replace hk := andR hk
      refine lv_iconst (v := (-1)) hx hb d_Mo_copy_261 (by decide) ?_
      refine lv_icmp_ne (tgt := 298) hx hb d_Mo_copy_262 (by decide) (fun c_2 => ?_) (fun c_2 => ?_)
      · rw [if_neg c_2] at hR hk
        refine lv_aload_n hx hb d_Mo_copy_298 rfl (lv_at hl 1 rfl) ?_
        refine lv_bipush (v := 8) hx hb d_Mo_copy_299 (by decide) ?_
        refine lv_aload_n hx hb d_Mo_copy_301 rfl (lv_at hl 1 rfl) ?_
        refine gt hC hB _ lkM_o rfl i_Mo 16 (by decide) rfl kw_907 rfl d_Mo_copy_302 ?_
        refine lv_iload hx hb d_Mo_copy_305 (lv_at hl 0 rfl) ?_
        refine va_iald hx hb hC.2.2.2.2.2.2.2.1.1 hB.1 _ 0 (lkM_i (by decide : 6 < 7)) rfl (of_eq_true (andL hk)) d_Mo_copy_307 ?_
        replace hk := andR hk
        refine lv_imul hx hb d_Mo_copy_308 ?_
        refine lv_iload hx hb d_Mo_copy_309 (lv_at hl 5 rfl) ?_
        refine lv_bipush (v := 8) hx hb d_Mo_copy_311 (by decide) ?_
        refine lv_irem hx hb d_Mo_copy_313 (by decide) ?_
        refine lv_iadd hx hb d_Mo_copy_314 ?_
        refine lv_iload_n hx hb d_Mo_copy_315 rfl (lv_at hl 3 rfl) ?_
        refine kV hC hB _ lkM_o rfl (c_Mo_putGate τ  ((8 * (yI τ 6 (v4 / 8).toNatClampNeg)) + (v4 - v4 / 8 * 8)) v2 (andL hk)) allw_ok mf_Mo_putGate kw_1071 ks_46 kw_1069 ⟨rfl, rfl, Nat.le_of_ble_eq_true rfl, Nat.le_of_ble_eq_true rfl⟩ rfl rfl hl.1 (Nat.le_of_ble_eq_true rfl) d_Mo_copy_316 ⟨Nat.le_of_ble_eq_true rfl, Nat.le_of_ble_eq_true rfl⟩ (roK fun H locs hB => ?_)
        replace hk := andR hk
        refine lv_aload_n hx hb d_Mo_copy_319 rfl (lv_at hl 1 rfl) ?_
        refine lv_iload_n hx hb d_Mo_copy_320 rfl (lv_at hl 2 rfl) ?_
        refine lv_aload_n hx hb d_Mo_copy_321 rfl (lv_at hl 1 rfl) ?_
        refine gt hC hB _ lkM_o rfl i_Mo 1 (by decide) rfl kw_892 rfl d_Mo_copy_322 ?_
        refine lv_sipush (v := 2432) hx hb d_Mo_copy_325 (by decide) ?_
        refine lv_iload hx hb d_Mo_copy_328 (lv_at hl 5 rfl) ?_
        refine lv_iadd hx hb d_Mo_copy_330 ?_
        refine va_lald hx hb hC.2.2.2.2.2.2.2.1.1 hB.1 _ 1 (lkM_l (by decide : 0 < 4)) rfl (of_eq_true (andL hk)) d_Mo_copy_331 ?_
        replace hk := andR hk
        refine kV hC hB _ lkM_o rfl (c_Mo_nextGate (m_Mo_putGate τ ((8 * (yI τ 6 (v4 / 8).toNatClampNeg)) + (v4 - v4 / 8 * 8)) v2)  v1 (yL (m_Mo_putGate τ ((8 * (yI τ 6 (v4 / 8).toNatClampNeg)) + (v4 - v4 / 8 * 8)) v2) 0 (2432 + v4).toNatClampNeg) (andL hk)) allw_ok mf_Mo_nextGate kw_1087 ks_49 kw_1085 ⟨rfl, rfl, Nat.le_of_ble_eq_true rfl, Nat.le_of_ble_eq_true rfl⟩ rfl rfl hl.1 (Nat.le_of_ble_eq_true rfl) d_Mo_copy_332 ⟨Nat.le_of_ble_eq_true rfl, Nat.le_of_ble_eq_true rfl⟩ (roK fun H locs hB => ?_)
        replace hk := andR hk
        refine lv_istore (lv' := [(4, .int (m_Mo_nextGate (m_Mo_putGate τ ((8 * (yI τ 6 (v4 / 8).toNatClampNeg)) + (v4 - v4 / 8 * 8)) v2) v1 (yL (m_Mo_putGate τ ((8 * (yI τ 6 (v4 / 8).toNatClampNeg)) + (v4 - v4 / 8 * 8)) v2) 0 (2432 + v4).toNatClampNeg))), (5, .int (v4 / 8)), (0, .ref (G 4 0)), (1, .int v1), (2, .int v2), (3, .int v3)]) hx hb d_Mo_copy_335 hl (by decide) rfl (fun ls hl => ?_)
        refine lv_goto (tgt := 241) hx hb d_Mo_copy_337 (by decide) ?_
        exact ih (m_Mo_putGate τ ((8 * (yI τ 6 (v4 / 8).toNatClampNeg)) + (v4 - v4 / 8 * 8)) v2) v1 v2 v3 (m_Mo_nextGate (m_Mo_putGate τ ((8 * (yI τ 6 (v4 / 8).toNatClampNeg)) + (v4 - v4 / 8 * 8)) v2) v1 (yL (m_Mo_putGate τ ((8 * (yI τ 6 (v4 / 8).toNatClampNeg)) + (v4 - v4 / 8 * 8)) v2) 0 (2432 + v4).toNatClampNeg)) (trivial) hR hk _ _ hB ls (lv_sub hl [2, 3, 4, 5, 0] rfl)
      · rw [if_pos c_2] at hR hk
        refine lv_aload_n hx hb d_Mo_copy_265 rfl (lv_at hl 1 rfl) ?_
        refine gt hC hB _ lkM_o rfl i_Mo 16 (by decide) rfl kw_907 rfl d_Mo_copy_266 ?_
        refine lv_iload hx hb d_Mo_copy_269 (lv_at hl 0 rfl) ?_
        refine lv_aload_n hx hb d_Mo_copy_271 rfl (lv_at hl 1 rfl) ?_
        refine lv_aload_n hx hb d_Mo_copy_272 rfl (lv_at hl 1 rfl) ?_
        refine gt hC hB _ lkM_o rfl i_Mo 1 (by decide) rfl kw_892 rfl d_Mo_copy_273 ?_
        refine lv_sipush (v := 2132) hx hb d_Mo_copy_276 (by decide) ?_
        refine lv_iload hx hb d_Mo_copy_279 (lv_at hl 0 rfl) ?_
        refine lv_iadd hx hb d_Mo_copy_281 ?_
        refine va_lald hx hb hC.2.2.2.2.2.2.2.1.1 hB.1 _ 1 (lkM_l (by decide : 0 < 4)) rfl (of_eq_true (andL hk)) d_Mo_copy_282 ?_
        replace hk := andR hk
        refine lv_aload_n hx hb d_Mo_copy_283 rfl (lv_at hl 1 rfl) ?_
        refine gt hC hB _ lkM_o rfl i_Mo 1 (by decide) rfl kw_892 rfl d_Mo_copy_284 ?_
        refine lv_sipush (v := 2162) hx hb d_Mo_copy_287 (by decide) ?_
        refine lv_iload hx hb d_Mo_copy_290 (lv_at hl 0 rfl) ?_
        refine lv_iadd hx hb d_Mo_copy_292 ?_
        refine va_lald hx hb hC.2.2.2.2.2.2.2.1.1 hB.1 _ 1 (lkM_l (by decide : 0 < 4)) rfl (of_eq_true (andL hk)) d_Mo_copy_293 ?_
        replace hk := andR hk
        refine kV hC hB _ lkM_o rfl (c_Mo_addPart τ  (yL τ 0 (2132 + (v4 / 8)).toNatClampNeg) (yL τ 0 (2162 + (v4 / 8)).toNatClampNeg) (andL hk)) allw_ok mf_Mo_addPart kw_1051 ks_42 kw_1049 ⟨rfl, rfl, Nat.le_of_ble_eq_true rfl, Nat.le_of_ble_eq_true rfl⟩ rfl rfl hl.1 (Nat.le_of_ble_eq_true rfl) d_Mo_copy_294 ⟨Nat.le_of_ble_eq_true rfl, Nat.le_of_ble_eq_true rfl⟩ (roK fun H locs hB => ?_)
        replace hk := andR hk
        refine as_i rfl hC hB _ 0 (lkM_i (by decide : 6 < 7)) rfl (of_eq_true (andL hk)) d_Mo_copy_297 (ws' := wsM G cI cL (wI ((m_Mo_addPart τ (yL τ 0 (2132 + (v4 / 8)).toNatClampNeg) (yL τ 0 (2162 + (v4 / 8)).toNatClampNeg)).2) 6 ((v4 / 8).toNatClampNeg) ((m_Mo_addPart τ (yL τ 0 (2132 + (v4 / 8)).toNatClampNeg) (yL τ 0 (2162 + (v4 / 8)).toNatClampNeg)).1)) rest) (setM_i (by decide : 6 < 7) _ _) (fun H locs hB => ?_)
        replace hk := andR hk
        refine lv_aload_n hx hb d_Mo_copy_298 rfl (lv_at hl 1 rfl) ?_
        refine lv_bipush (v := 8) hx hb d_Mo_copy_299 (by decide) ?_
        refine lv_aload_n hx hb d_Mo_copy_301 rfl (lv_at hl 1 rfl) ?_
        refine gt hC hB _ lkM_o rfl i_Mo 16 (by decide) rfl kw_907 rfl d_Mo_copy_302 ?_
        refine lv_iload hx hb d_Mo_copy_305 (lv_at hl 0 rfl) ?_
        refine va_iald hx hb hC.2.2.2.2.2.2.2.1.1 hB.1 _ 0 (lkM_i (by decide : 6 < 7)) rfl (of_eq_true (andL hk)) d_Mo_copy_307 ?_
        replace hk := andR hk
        refine lv_imul hx hb d_Mo_copy_308 ?_
        refine lv_iload hx hb d_Mo_copy_309 (lv_at hl 5 rfl) ?_
        refine lv_bipush (v := 8) hx hb d_Mo_copy_311 (by decide) ?_
        refine lv_irem hx hb d_Mo_copy_313 (by decide) ?_
        refine lv_iadd hx hb d_Mo_copy_314 ?_
        refine lv_iload_n hx hb d_Mo_copy_315 rfl (lv_at hl 3 rfl) ?_
        refine kV hC hB _ lkM_o rfl (c_Mo_putGate (wI ((m_Mo_addPart τ (yL τ 0 (2132 + (v4 / 8)).toNatClampNeg) (yL τ 0 (2162 + (v4 / 8)).toNatClampNeg)).2) 6 ((v4 / 8).toNatClampNeg) ((m_Mo_addPart τ (yL τ 0 (2132 + (v4 / 8)).toNatClampNeg) (yL τ 0 (2162 + (v4 / 8)).toNatClampNeg)).1))  ((8 * (yI (wI ((m_Mo_addPart τ (yL τ 0 (2132 + (v4 / 8)).toNatClampNeg) (yL τ 0 (2162 + (v4 / 8)).toNatClampNeg)).2) 6 ((v4 / 8).toNatClampNeg) ((m_Mo_addPart τ (yL τ 0 (2132 + (v4 / 8)).toNatClampNeg) (yL τ 0 (2162 + (v4 / 8)).toNatClampNeg)).1)) 6 (v4 / 8).toNatClampNeg)) + (v4 - v4 / 8 * 8)) v2 (andL hk)) allw_ok mf_Mo_putGate kw_1071 ks_46 kw_1069 ⟨rfl, rfl, Nat.le_of_ble_eq_true rfl, Nat.le_of_ble_eq_true rfl⟩ rfl rfl hl.1 (Nat.le_of_ble_eq_true rfl) d_Mo_copy_316 ⟨Nat.le_of_ble_eq_true rfl, Nat.le_of_ble_eq_true rfl⟩ (roK fun H locs hB => ?_)
        replace hk := andR hk
        refine lv_aload_n hx hb d_Mo_copy_319 rfl (lv_at hl 1 rfl) ?_
        refine lv_iload_n hx hb d_Mo_copy_320 rfl (lv_at hl 2 rfl) ?_
        refine lv_aload_n hx hb d_Mo_copy_321 rfl (lv_at hl 1 rfl) ?_
        refine gt hC hB _ lkM_o rfl i_Mo 1 (by decide) rfl kw_892 rfl d_Mo_copy_322 ?_
        refine lv_sipush (v := 2432) hx hb d_Mo_copy_325 (by decide) ?_
        refine lv_iload hx hb d_Mo_copy_328 (lv_at hl 5 rfl) ?_
        refine lv_iadd hx hb d_Mo_copy_330 ?_
        refine va_lald hx hb hC.2.2.2.2.2.2.2.1.1 hB.1 _ 1 (lkM_l (by decide : 0 < 4)) rfl (of_eq_true (andL hk)) d_Mo_copy_331 ?_
        replace hk := andR hk
        refine kV hC hB _ lkM_o rfl (c_Mo_nextGate (m_Mo_putGate (wI ((m_Mo_addPart τ (yL τ 0 (2132 + (v4 / 8)).toNatClampNeg) (yL τ 0 (2162 + (v4 / 8)).toNatClampNeg)).2) 6 ((v4 / 8).toNatClampNeg) ((m_Mo_addPart τ (yL τ 0 (2132 + (v4 / 8)).toNatClampNeg) (yL τ 0 (2162 + (v4 / 8)).toNatClampNeg)).1)) ((8 * (yI (wI ((m_Mo_addPart τ (yL τ 0 (2132 + (v4 / 8)).toNatClampNeg) (yL τ 0 (2162 + (v4 / 8)).toNatClampNeg)).2) 6 ((v4 / 8).toNatClampNeg) ((m_Mo_addPart τ (yL τ 0 (2132 + (v4 / 8)).toNatClampNeg) (yL τ 0 (2162 + (v4 / 8)).toNatClampNeg)).1)) 6 (v4 / 8).toNatClampNeg)) + (v4 - v4 / 8 * 8)) v2)  v1 (yL (m_Mo_putGate (wI ((m_Mo_addPart τ (yL τ 0 (2132 + (v4 / 8)).toNatClampNeg) (yL τ 0 (2162 + (v4 / 8)).toNatClampNeg)).2) 6 ((v4 / 8).toNatClampNeg) ((m_Mo_addPart τ (yL τ 0 (2132 + (v4 / 8)).toNatClampNeg) (yL τ 0 (2162 + (v4 / 8)).toNatClampNeg)).1)) ((8 * (yI (wI ((m_Mo_addPart τ (yL τ 0 (2132 + (v4 / 8)).toNatClampNeg) (yL τ 0 (2162 + (v4 / 8)).toNatClampNeg)).2) 6 ((v4 / 8).toNatClampNeg) ((m_Mo_addPart τ (yL τ 0 (2132 + (v4 / 8)).toNatClampNeg) (yL τ 0 (2162 + (v4 / 8)).toNatClampNeg)).1)) 6 (v4 / 8).toNatClampNeg)) + (v4 - v4 / 8 * 8)) v2) 0 (2432 + v4).toNatClampNeg) (andL hk)) allw_ok mf_Mo_nextGate kw_1087 ks_49 kw_1085 ⟨rfl, rfl, Nat.le_of_ble_eq_true rfl, Nat.le_of_ble_eq_true rfl⟩ rfl rfl hl.1 (Nat.le_of_ble_eq_true rfl) d_Mo_copy_332 ⟨Nat.le_of_ble_eq_true rfl, Nat.le_of_ble_eq_true rfl⟩ (roK fun H locs hB => ?_)
        replace hk := andR hk
        refine lv_istore (lv' := [(4, .int (m_Mo_nextGate (m_Mo_putGate (wI ((m_Mo_addPart τ (yL τ 0 (2132 + (v4 / 8)).toNatClampNeg) (yL τ 0 (2162 + (v4 / 8)).toNatClampNeg)).2) 6 ((v4 / 8).toNatClampNeg) ((m_Mo_addPart τ (yL τ 0 (2132 + (v4 / 8)).toNatClampNeg) (yL τ 0 (2162 + (v4 / 8)).toNatClampNeg)).1)) ((8 * (yI (wI ((m_Mo_addPart τ (yL τ 0 (2132 + (v4 / 8)).toNatClampNeg) (yL τ 0 (2162 + (v4 / 8)).toNatClampNeg)).2) 6 ((v4 / 8).toNatClampNeg) ((m_Mo_addPart τ (yL τ 0 (2132 + (v4 / 8)).toNatClampNeg) (yL τ 0 (2162 + (v4 / 8)).toNatClampNeg)).1)) 6 (v4 / 8).toNatClampNeg)) + (v4 - v4 / 8 * 8)) v2) v1 (yL (m_Mo_putGate (wI ((m_Mo_addPart τ (yL τ 0 (2132 + (v4 / 8)).toNatClampNeg) (yL τ 0 (2162 + (v4 / 8)).toNatClampNeg)).2) 6 ((v4 / 8).toNatClampNeg) ((m_Mo_addPart τ (yL τ 0 (2132 + (v4 / 8)).toNatClampNeg) (yL τ 0 (2162 + (v4 / 8)).toNatClampNeg)).1)) ((8 * (yI (wI ((m_Mo_addPart τ (yL τ 0 (2132 + (v4 / 8)).toNatClampNeg) (yL τ 0 (2162 + (v4 / 8)).toNatClampNeg)).2) 6 ((v4 / 8).toNatClampNeg) ((m_Mo_addPart τ (yL τ 0 (2132 + (v4 / 8)).toNatClampNeg) (yL τ 0 (2162 + (v4 / 8)).toNatClampNeg)).1)) 6 (v4 / 8).toNatClampNeg)) + (v4 - v4 / 8 * 8)) v2) 0 (2432 + v4).toNatClampNeg))), (5, .int (v4 / 8)), (0, .ref (G 4 0)), (1, .int v1), (2, .int v2), (3, .int v3)]) hx hb d_Mo_copy_335 hl (by decide) rfl (fun ls hl => ?_)
        refine lv_goto (tgt := 241) hx hb d_Mo_copy_337 (by decide) ?_
        exact ih (m_Mo_putGate (wI ((m_Mo_addPart τ (yL τ 0 (2132 + (v4 / 8)).toNatClampNeg) (yL τ 0 (2162 + (v4 / 8)).toNatClampNeg)).2) 6 ((v4 / 8).toNatClampNeg) ((m_Mo_addPart τ (yL τ 0 (2132 + (v4 / 8)).toNatClampNeg) (yL τ 0 (2162 + (v4 / 8)).toNatClampNeg)).1)) ((8 * (yI (wI ((m_Mo_addPart τ (yL τ 0 (2132 + (v4 / 8)).toNatClampNeg) (yL τ 0 (2162 + (v4 / 8)).toNatClampNeg)).2) 6 ((v4 / 8).toNatClampNeg) ((m_Mo_addPart τ (yL τ 0 (2132 + (v4 / 8)).toNatClampNeg) (yL τ 0 (2162 + (v4 / 8)).toNatClampNeg)).1)) 6 (v4 / 8).toNatClampNeg)) + (v4 - v4 / 8 * 8)) v2) v1 v2 v3 (m_Mo_nextGate (m_Mo_putGate (wI ((m_Mo_addPart τ (yL τ 0 (2132 + (v4 / 8)).toNatClampNeg) (yL τ 0 (2162 + (v4 / 8)).toNatClampNeg)).2) 6 ((v4 / 8).toNatClampNeg) ((m_Mo_addPart τ (yL τ 0 (2132 + (v4 / 8)).toNatClampNeg) (yL τ 0 (2162 + (v4 / 8)).toNatClampNeg)).1)) ((8 * (yI (wI ((m_Mo_addPart τ (yL τ 0 (2132 + (v4 / 8)).toNatClampNeg) (yL τ 0 (2162 + (v4 / 8)).toNatClampNeg)).2) 6 ((v4 / 8).toNatClampNeg) ((m_Mo_addPart τ (yL τ 0 (2132 + (v4 / 8)).toNatClampNeg) (yL τ 0 (2162 + (v4 / 8)).toNatClampNeg)).1)) 6 (v4 / 8).toNatClampNeg)) + (v4 - v4 / 8 * 8)) v2) v1 (yL (m_Mo_putGate (wI ((m_Mo_addPart τ (yL τ 0 (2132 + (v4 / 8)).toNatClampNeg) (yL τ 0 (2162 + (v4 / 8)).toNatClampNeg)).2) 6 ((v4 / 8).toNatClampNeg) ((m_Mo_addPart τ (yL τ 0 (2132 + (v4 / 8)).toNatClampNeg) (yL τ 0 (2162 + (v4 / 8)).toNatClampNeg)).1)) ((8 * (yI (wI ((m_Mo_addPart τ (yL τ 0 (2132 + (v4 / 8)).toNatClampNeg) (yL τ 0 (2162 + (v4 / 8)).toNatClampNeg)).2) 6 ((v4 / 8).toNatClampNeg) ((m_Mo_addPart τ (yL τ 0 (2132 + (v4 / 8)).toNatClampNeg) (yL τ 0 (2162 + (v4 / 8)).toNatClampNeg)).1)) 6 (v4 / 8).toNatClampNeg)) + (v4 - v4 / 8 * 8)) v2) 0 (2432 + v4).toNatClampNeg)) (trivial) hR hk _ _ hB ls (lv_sub hl [2, 3, 4, 5, 0] rfl)

set_option maxHeartbeats 400000 in
set_option maxRecDepth 100000 in
theorem w_Mo_copy_210 {p : Program} {e : Env} {s : State} {m : MethodId} {args : Array Value} {below : List Frame} {meth : Method} {c : Code} {RES : Int32 × SM}   (hC : cx D classes (tyL cI cL cQ) NWL ALLW N0 p s m args meth c b_Mo_copy 6 (some .int) R_Mo) :
    ∀ (n : Nat) (τ : SM) (v1 : Int32) (v2 : Int32) (v3 : Int32) (v4 : Int32), upI n (30 : Int32) v4 → lp_Mo_copy_210 n τ  v1 v2 v3 v4 = RES → (kl_Mo_copy_210 n τ  v1 v2 v3 v4) = True → ∀ (H : Heap) (locs : List Loc), bd D classes N0 N0 (wsM G cI cL τ rest) s H locs → ∀ (ls : Array Slot), lv_has ls 6 [(0, .ref (G 4 0)), (1, .int v1), (2, .int v2), (3, .int v3), (4, .int v4)] → W p l e { frames := 2, cells := 0, slots := 0, locals := 47 } s m args below meth c H locs 0 0 (MQ below (qx D classes N0 N0 (some (.int RES.1)) (fun w => w = wsM G cI cL RES.2 rest)) args s 0 0 (ga N0)) (F0 m 210 ls []) := by
  obtain ⟨RV, RS⟩ := RES
  dsimp only
  have hx := hC.1
  have hb := hC.2.1
  intro n
  induction n with
  | zero =>
    intro τ v1 v2 v3 v4 hI
    exact absurd hI up_zero
  | succ n ih =>
    intro τ v1 v2 v3 v4 hI hR hk H locs hB ls hl
    rw [lp_Mo_copy_210] at hR
    rw [kl_Mo_copy_210] at hk
    refine lv_iload hx hb d_Mo_copy_210 (lv_at hl 4 rfl) ?_
    refine lv_bipush (v := 30) hx hb d_Mo_copy_212 (by decide) ?_
    refine lv_icmp_ge (tgt := 231) hx hb d_Mo_copy_214 (by decide) (fun c_1 => ?_) (fun c_1 => ?_)
    · rw [if_pos c_1] at hR hk
      refine lv_aload_n hx hb d_Mo_copy_231 rfl (lv_at hl 0 rfl) ?_
      refine lv_iload_n hx hb d_Mo_copy_232 rfl (lv_at hl 1 rfl) ?_
      refine lv_ldc2 (v := (-1)) hx hb hC.2.2.2.2.1 (hC.2.2.2.2.2.1 _ kw_1001) d_Mo_copy_233 ?_
      refine kV hC hB _ lkM_o rfl (c_Mo_nextGate τ  v1 (-1) (andL hk)) allw_ok mf_Mo_nextGate kw_1087 ks_49 kw_1085 ⟨rfl, rfl, Nat.le_of_ble_eq_true rfl, Nat.le_of_ble_eq_true rfl⟩ rfl rfl hl.1 (Nat.le_of_ble_eq_true rfl) d_Mo_copy_236 ⟨Nat.le_of_ble_eq_true rfl, Nat.le_of_ble_eq_true rfl⟩ (roK fun H locs hB => ?_)
      replace hk := andR hk
      refine lv_istore (lv' := [(4, .int (m_Mo_nextGate τ v1 (-1))), (0, .ref (G 4 0)), (1, .int v1), (2, .int v2), (3, .int v3)]) hx hb d_Mo_copy_239 hl (by decide) rfl (fun ls hl => ?_)
      exact w_Mo_copy_241   hC 242 τ v1 v2 v3 (m_Mo_nextGate τ v1 (-1)) (trivial) hR hk _ _ hB ls (lv_sub hl [1, 2, 3, 4, 0] rfl)
    · rw [if_neg c_1] at hR hk
      refine lv_aload_n hx hb d_Mo_copy_217 rfl (lv_at hl 0 rfl) ?_
      refine gt hC hB _ lkM_o rfl i_Mo 16 (by decide) rfl kw_907 rfl d_Mo_copy_218 ?_
      refine lv_iload hx hb d_Mo_copy_221 (lv_at hl 4 rfl) ?_
      refine lv_iconst (v := (-1)) hx hb d_Mo_copy_223 (by decide) ?_
      refine as_i rfl hC hB _ 0 (lkM_i (by decide : 6 < 7)) rfl (of_eq_true (andL hk)) d_Mo_copy_224 (ws' := wsM G cI cL (wI τ 6 v4.toNatClampNeg (-1)) rest) (setM_i (by decide : 6 < 7) _ _) (fun H locs hB => ?_)
      replace hk := andR hk
      refine lv_iinc (v := (v4 + 1)) (lv' := [(4, .int (v4 + 1)), (0, .ref (G 4 0)), (1, .int v1), (2, .int v2), (3, .int v3)]) hx hb d_Mo_copy_225 hl (k := 4) rfl rfl (by decide) rfl (fun ls hl => ?_)
      refine lv_goto (tgt := 210) hx hb d_Mo_copy_228 (by decide) ?_
      exact ih (wI τ 6 v4.toNatClampNeg (-1)) v1 v2 v3 (v4 + 1) (up_step hI (by assumption)) hR hk _ _ hB ls (lv_sub hl [1, 2, 3, 4, 0] rfl)

set_option maxHeartbeats 400000 in
set_option maxRecDepth 100000 in
theorem w_Mo_copy_142 {p : Program} {e : Env} {s : State} {m : MethodId} {args : Array Value} {below : List Frame} {meth : Method} {c : Code} {RES : Int32 × SM} (K : SM → Int32 → Int32 → Int32 → Int32 × SM) (KP : SM → Int32 → Int32 → Int32 → Prop)   (hC : cx D classes (tyL cI cL cQ) NWL ALLW N0 p s m args meth c b_Mo_copy 6 (some .int) R_Mo) (hK : ∀ (τ : SM) (v1 : Int32) (v2 : Int32) (v3 : Int32), True → K τ  v1 v2 v3 = RES → (KP τ  v1 v2 v3) = True → ∀ (H : Heap) (locs : List Loc), bd D classes N0 N0 (wsM G cI cL τ rest) s H locs → ∀ (ls : Array Slot), lv_has ls 6 [(0, .ref (G 4 0)), (1, .int v1), (2, .int v2), (3, .int v3)] → W p l e { frames := 2, cells := 0, slots := 0, locals := 47 } s m args below meth c H locs 0 0 (MQ below (qx D classes N0 N0 (some (.int RES.1)) (fun w => w = wsM G cI cL RES.2 rest)) args s 0 0 (ga N0)) (F0 m 117 ls [])) :
    ∀ (n : Nat) (τ : SM) (v1 : Int32) (v2 : Int32) (v3 : Int32) (v4 : Int32) (v5 : Int32), upI n (32 : Int32) v5 → lp_Mo_copy_142 K n τ  v1 v2 v3 v4 v5 = RES → (kl_Mo_copy_142 KP n τ  v1 v2 v3 v4 v5) = True → ∀ (H : Heap) (locs : List Loc), bd D classes N0 N0 (wsM G cI cL τ rest) s H locs → ∀ (ls : Array Slot), lv_has ls 6 [(0, .ref (G 4 0)), (1, .int v1), (2, .int v2), (3, .int v3), (4, .int v4), (5, .int v5)] → W p l e { frames := 2, cells := 0, slots := 0, locals := 47 } s m args below meth c H locs 0 0 (MQ below (qx D classes N0 N0 (some (.int RES.1)) (fun w => w = wsM G cI cL RES.2 rest)) args s 0 0 (ga N0)) (F0 m 142 ls []) := by
  obtain ⟨RV, RS⟩ := RES
  dsimp only
  have hx := hC.1
  have hb := hC.2.1
  intro n
  induction n with
  | zero =>
    intro τ v1 v2 v3 v4 v5 hI
    exact absurd hI up_zero
  | succ n ih =>
    intro τ v1 v2 v3 v4 v5 hI hR hk H locs hB ls hl
    rw [lp_Mo_copy_142] at hR
    rw [kl_Mo_copy_142] at hk
    refine lv_iload hx hb d_Mo_copy_142 (lv_at hl 5 rfl) ?_
    refine lv_bipush (v := 32) hx hb d_Mo_copy_144 (by decide) ?_
    refine lv_icmp_ge (tgt := 188) hx hb d_Mo_copy_146 (by decide) (fun c_1 => ?_) (fun c_1 => ?_)
    · rw [if_pos c_1] at hR hk
      refine lv_aload_n hx hb d_Mo_copy_188 rfl (lv_at hl 0 rfl) ?_
      refine lv_iload_n hx hb d_Mo_copy_189 rfl (lv_at hl 1 rfl) ?_
      refine lv_aload_n hx hb d_Mo_copy_190 rfl (lv_at hl 0 rfl) ?_
      refine gt hC hB _ lkM_o rfl i_Mo 1 (by decide) rfl kw_892 rfl d_Mo_copy_191 ?_
      refine lv_sipush (v := 152) hx hb d_Mo_copy_194 (by decide) ?_
      refine lv_iload_n hx hb d_Mo_copy_197 rfl (lv_at hl 3 rfl) ?_
      refine lv_iadd hx hb d_Mo_copy_198 ?_
      refine va_lald hx hb hC.2.2.2.2.2.2.2.1.1 hB.1 _ 1 (lkM_l (by decide : 0 < 4)) rfl (of_eq_true (andL hk)) d_Mo_copy_199 ?_
      replace hk := andR hk
      refine kV hC hB _ lkM_o rfl (c_Mo_next τ  v1 (yL τ 0 (152 + v3).toNatClampNeg) (andL hk)) allw_ok mf_Mo_next kw_1004 ks_38 kw_1002 ⟨rfl, rfl, Nat.le_of_ble_eq_true rfl, Nat.le_of_ble_eq_true rfl⟩ rfl rfl hl.1 (Nat.le_of_ble_eq_true rfl) d_Mo_copy_200 ⟨Nat.le_of_ble_eq_true rfl, Nat.le_of_ble_eq_true rfl⟩ (roK fun H locs hB => ?_)
      replace hk := andR hk
      refine lv_istore_n (lv' := [(3, .int (m_Mo_next τ v1 (yL τ 0 (152 + v3).toNatClampNeg))), (0, .ref (G 4 0)), (1, .int v1), (2, .int v2), (4, .int v4), (5, .int v5)]) hx hb d_Mo_copy_203 rfl hl (by decide) rfl (fun ls hl => ?_)
      refine lv_goto (tgt := 117) hx hb d_Mo_copy_204 (by decide) ?_
      exact hK τ v1 v2 (m_Mo_next τ v1 (yL τ 0 (152 + v3).toNatClampNeg)) (trivial) hR hk _ _ hB ls (lv_sub hl [1, 2, 3, 0] rfl)
    · rw [if_neg c_1] at hR hk
      refine lv_aload_n hx hb d_Mo_copy_149 rfl (lv_at hl 0 rfl) ?_
      refine gt hC hB _ lkM_o rfl i_Mo 1 (by decide) rfl kw_892 rfl d_Mo_copy_150 ?_
      refine lv_sipush (v := 212) hx hb d_Mo_copy_153 (by decide) ?_
      refine lv_bipush (v := 32) hx hb d_Mo_copy_156 (by decide) ?_
      refine lv_iload hx hb d_Mo_copy_158 (lv_at hl 4 rfl) ?_
      refine lv_imul hx hb d_Mo_copy_160 ?_
      refine lv_iadd hx hb d_Mo_copy_161 ?_
      refine lv_iload hx hb d_Mo_copy_162 (lv_at hl 5 rfl) ?_
      refine lv_iadd hx hb d_Mo_copy_164 ?_
      refine lv_aload_n hx hb d_Mo_copy_165 rfl (lv_at hl 0 rfl) ?_
      refine gt hC hB _ lkM_o rfl i_Mo 1 (by decide) rfl kw_892 rfl d_Mo_copy_166 ?_
      refine lv_sipush (v := 212) hx hb d_Mo_copy_169 (by decide) ?_
      refine lv_bipush (v := 32) hx hb d_Mo_copy_172 (by decide) ?_
      refine lv_iload_n hx hb d_Mo_copy_174 rfl (lv_at hl 3 rfl) ?_
      refine lv_imul hx hb d_Mo_copy_175 ?_
      refine lv_iadd hx hb d_Mo_copy_176 ?_
      refine lv_iload hx hb d_Mo_copy_177 (lv_at hl 5 rfl) ?_
      refine lv_iadd hx hb d_Mo_copy_179 ?_
      refine va_lald hx hb hC.2.2.2.2.2.2.2.1.1 hB.1 _ 1 (lkM_l (by decide : 0 < 4)) rfl (of_eq_true (andL hk)) d_Mo_copy_180 ?_
      replace hk := andR hk
      refine as_l rfl hC hB _ 1 (lkM_l (by decide : 0 < 4)) rfl (of_eq_true (andL hk)) d_Mo_copy_181 (ws' := wsM G cI cL (wL τ 0 (((212 + (32 * v4)) + v5).toNatClampNeg) (yL τ 0 ((212 + (32 * v3)) + v5).toNatClampNeg)) rest) (setM_l (by decide : 0 < 4) _ _) (fun H locs hB => ?_)
      replace hk := andR hk
      refine lv_iinc (v := (v5 + 1)) (lv' := [(5, .int (v5 + 1)), (0, .ref (G 4 0)), (1, .int v1), (2, .int v2), (3, .int v3), (4, .int v4)]) hx hb d_Mo_copy_182 hl (k := 5) rfl rfl (by decide) rfl (fun ls hl => ?_)
      refine lv_goto (tgt := 142) hx hb d_Mo_copy_185 (by decide) ?_
      exact ih (wL τ 0 (((212 + (32 * v4)) + v5).toNatClampNeg) (yL τ 0 ((212 + (32 * v3)) + v5).toNatClampNeg)) v1 v2 v3 v4 (v5 + 1) (up_step hI (by assumption)) hR hk _ _ hB ls (lv_sub hl [1, 2, 3, 4, 5, 0] rfl)

set_option maxHeartbeats 400000 in
set_option maxRecDepth 100000 in
theorem w_Mo_copy_117 {p : Program} {e : Env} {s : State} {m : MethodId} {args : Array Value} {below : List Frame} {meth : Method} {c : Code} {RES : Int32 × SM}   (hC : cx D classes (tyL cI cL cQ) NWL ALLW N0 p s m args meth c b_Mo_copy 6 (some .int) R_Mo) :
    ∀ (n : Nat) (τ : SM) (v1 : Int32) (v2 : Int32) (v3 : Int32), True → lp_Mo_copy_117 n τ  v1 v2 v3 = RES → (kl_Mo_copy_117 n τ  v1 v2 v3) = True → ∀ (H : Heap) (locs : List Loc), bd D classes N0 N0 (wsM G cI cL τ rest) s H locs → ∀ (ls : Array Slot), lv_has ls 6 [(0, .ref (G 4 0)), (1, .int v1), (2, .int v2), (3, .int v3)] → W p l e { frames := 2, cells := 0, slots := 0, locals := 47 } s m args below meth c H locs 0 0 (MQ below (qx D classes N0 N0 (some (.int RES.1)) (fun w => w = wsM G cI cL RES.2 rest)) args s 0 0 (ga N0)) (F0 m 117 ls []) := by
  obtain ⟨RV, RS⟩ := RES
  dsimp only
  have hx := hC.1
  have hb := hC.2.1
  intro n
  induction n with
  | zero =>
    intro τ v1 v2 v3 hI hR hk
    exact False.elim (of_eq_true hk)
  | succ n ih =>
    intro τ v1 v2 v3 hI hR hk H locs hB ls hl
    rw [lp_Mo_copy_117] at hR
    rw [kl_Mo_copy_117] at hk
    refine lv_iload_n hx hb d_Mo_copy_117 rfl (lv_at hl 3 rfl) ?_
    refine lv_iconst (v := (-1)) hx hb d_Mo_copy_118 (by decide) ?_
    refine lv_icmp_eq (tgt := 207) hx hb d_Mo_copy_119 (by decide) (fun c_1 => ?_) (fun c_1 => ?_)
    · rw [if_pos c_1] at hR hk
      refine lv_iconst (v := 0) hx hb d_Mo_copy_207 (by decide) ?_
      refine lv_istore (lv' := [(4, .int 0), (0, .ref (G 4 0)), (1, .int v1), (2, .int v2), (3, .int v3)]) hx hb d_Mo_copy_208 hl (by decide) rfl (fun ls hl => ?_)
      exact w_Mo_copy_210   hC ((30 : Int32).toNatClampNeg + 1) τ v1 v2 v3 0 (up_init _) hR hk _ _ hB ls (lv_sub hl [1, 2, 3, 4, 0] rfl)
    · rw [if_neg c_1] at hR hk
      refine lv_aload_n hx hb d_Mo_copy_122 rfl (lv_at hl 0 rfl) ?_
      refine lv_iload_n hx hb d_Mo_copy_123 rfl (lv_at hl 2 rfl) ?_
      refine lv_aload_n hx hb d_Mo_copy_124 rfl (lv_at hl 0 rfl) ?_
      refine gt hC hB _ lkM_o rfl i_Mo 1 (by decide) rfl kw_892 rfl d_Mo_copy_125 ?_
      refine lv_bipush (v := 92) hx hb d_Mo_copy_128 (by decide) ?_
      refine lv_iload_n hx hb d_Mo_copy_130 rfl (lv_at hl 3 rfl) ?_
      refine lv_iadd hx hb d_Mo_copy_131 ?_
      refine va_lald hx hb hC.2.2.2.2.2.2.2.1.1 hB.1 _ 1 (lkM_l (by decide : 0 < 4)) rfl (of_eq_true (andL hk)) d_Mo_copy_132 ?_
      replace hk := andR hk
      refine lv_l2i hx hb d_Mo_copy_133 rfl ?_
      refine kV hC hB _ lkM_o rfl (c_Mo_addPlacement τ  v2 ((yL τ 0 (92 + v3).toNatClampNeg).toInt32) (andL hk)) allw_ok mf_Mo_addPlacement kw_987 ks_34 kw_985 ⟨rfl, rfl, Nat.le_of_ble_eq_true rfl, Nat.le_of_ble_eq_true rfl⟩ rfl rfl hl.1 (Nat.le_of_ble_eq_true rfl) d_Mo_copy_134 ⟨Nat.le_of_ble_eq_true rfl, Nat.le_of_ble_eq_true rfl⟩ (roK fun H locs hB => ?_)
      replace hk := andR hk
      refine lv_istore (lv' := [(4, .int ((m_Mo_addPlacement τ v2 ((yL τ 0 (92 + v3).toNatClampNeg).toInt32)).1)), (0, .ref (G 4 0)), (1, .int v1), (2, .int v2), (3, .int v3)]) hx hb d_Mo_copy_137 hl (by decide) rfl (fun ls hl => ?_)
      refine lv_iconst (v := 0) hx hb d_Mo_copy_139 (by decide) ?_
      refine lv_istore (lv' := [(5, .int 0), (4, .int ((m_Mo_addPlacement τ v2 ((yL τ 0 (92 + v3).toNatClampNeg).toInt32)).1)), (0, .ref (G 4 0)), (1, .int v1), (2, .int v2), (3, .int v3)]) hx hb d_Mo_copy_140 hl (by decide) rfl (fun ls hl => ?_)
      exact w_Mo_copy_142 (lp_Mo_copy_117 n) (kl_Mo_copy_117 n)   hC ih ((32 : Int32).toNatClampNeg + 1) ((m_Mo_addPlacement τ v2 ((yL τ 0 (92 + v3).toNatClampNeg).toInt32)).2) v1 v2 v3 ((m_Mo_addPlacement τ v2 ((yL τ 0 (92 + v3).toNatClampNeg).toInt32)).1) 0 (up_init _) hR hk _ _ hB ls (lv_sub hl [2, 3, 4, 5, 1, 0] rfl)

set_option maxHeartbeats 400000 in
set_option maxRecDepth 100000 in
theorem c_Mo_copy  (τ : SM)  (x0 : Int32) (hk : (k_Mo_copy τ x0) = True) : CM l y_Mo_copy b_Mo_copy 6 (some .int) { frames := 2, cells := 0, slots := 0, locals := 47 } D (tyL cI cL cQ) N0 N0 [.ref (G 4 0), .int x0] (wsM G cI cL τ rest) (some (.int ((m_Mo_copy τ x0).1))) (fun w => w = wsM G cI cL ((m_Mo_copy τ x0).2) rest) 0 0 := by
  generalize hR : m_Mo_copy τ x0 = RES
  obtain ⟨RV, RS⟩ := RES
  dsimp only
  refine met_of (own := R_Mo) (by decide) rfl nwl_ok ?_
  intro p e s m below meth c hC hin hB
  have hx := hC.1
  have hb := hC.2.1
  have hl := lv_entry ([.ref (G 4 0), .int x0]) (n := 6) (Nat.le_of_ble_eq_true rfl)
  rw [lg_entry_eq]
  generalize (lg_sl ([.ref (G 4 0), .int x0]) ++ List.replicate (6 - (lg_sl ([.ref (G 4 0), .int x0])).length) Slot.unset).toArray = ls at hl ⊢
  have hl : lv_has ls 6 [(0, .ref (G 4 0)), (1, .int x0)] := hl
  rw [m_Mo_copy] at hR
  rw [k_Mo_copy] at hk
  refine lv_aload_n hx hb d_Mo_copy_0 rfl (lv_at hl 0 rfl) ?_
  refine lv_aload_n hx hb d_Mo_copy_1 rfl (lv_at hl 0 rfl) ?_
  refine lv_iload_n hx hb d_Mo_copy_2 rfl (lv_at hl 1 rfl) ?_
  refine kV hC hB _ lkM_o rfl (c_Mo_isSheet τ  x0 (andL hk)) allw_ok mf_Mo_isSheet kw_979 ks_32 kw_977 ⟨rfl, rfl, Nat.le_of_ble_eq_true rfl, Nat.le_of_ble_eq_true rfl⟩ rfl rfl hl.1 (Nat.le_of_ble_eq_true rfl) d_Mo_copy_3 ⟨Nat.le_of_ble_eq_true rfl, Nat.le_of_ble_eq_true rfl⟩ (roK fun H locs hB => ?_)
  replace hk := andR hk
  refine lv_if_eq (tgt := 13) hx hb d_Mo_copy_6 (by decide) (fun c_1 => ?_) (fun c_1 => ?_)
  · rw [if_pos c_1] at hR hk
    refine lv_iconst (v := 1) hx hb d_Mo_copy_13 (by decide) ?_
    refine pt (ty := .int) rfl hC hB _ lkM_o rfl i_Mo t_Mo t_Mo_ok n_Mo 0 (by decide) rfl rfl kw_891 (by decide +kernel) rfl rfl (Nat.le_of_ble_eq_true rfl) d_Mo_copy_14 (ws' := wsM G cI cL (wn τ 0 1) rest) setM_n0 (fun H locs hB => ?_)
    refine lv_aload_n hx hb d_Mo_copy_17 rfl (lv_at hl 0 rfl) ?_
    refine gt (v := .int 1) hC hB _ lkM_o rfl i_Mo 0 (by decide) rfl kw_891 rfl d_Mo_copy_18 ?_
    refine lv_if_eq (tgt := 26) hx hb d_Mo_copy_21 (by decide) (fun c_2 => absurd c_2 (by decide)) (fun c_2 => ?_)
    refine lv_iconst (v := 0) hx hb d_Mo_copy_24 (by decide) ?_
    obtain ⟨rfl, rfl⟩ := Prod.mk.inj hR
    exact ri hC hB rfl d_Mo_copy_25
  · rw [if_neg c_1] at hR hk
    refine lv_iconst (v := 0) hx hb d_Mo_copy_9 (by decide) ?_
    refine lv_goto (tgt := 14) hx hb d_Mo_copy_10 (by decide) ?_
    refine pt (ty := .int) rfl hC hB _ lkM_o rfl i_Mo t_Mo t_Mo_ok n_Mo 0 (by decide) rfl rfl kw_891 (by decide +kernel) rfl rfl (Nat.le_of_ble_eq_true rfl) d_Mo_copy_14 (ws' := wsM G cI cL (wn τ 0 0) rest) setM_n0 (fun H locs hB => ?_)
    refine lv_aload_n hx hb d_Mo_copy_17 rfl (lv_at hl 0 rfl) ?_
    refine gt (v := .int 0) hC hB _ lkM_o rfl i_Mo 0 (by decide) rfl kw_891 rfl d_Mo_copy_18 ?_
    refine lv_if_eq (tgt := 26) hx hb d_Mo_copy_21 (by decide) (fun c_3 => ?_) (fun c_3 => absurd c_3 (by decide))
    refine lv_aload_n hx hb d_Mo_copy_26 rfl (lv_at hl 0 rfl) ?_
    refine lv_iconst (v := 0) hx hb d_Mo_copy_27 (by decide) ?_
    refine kV hC hB _ lkM_o rfl (c_Mo_count (wn τ 0 0)  0 (andL hk)) allw_ok mf_Mo_count kw_963 ks_29 kw_961 ⟨rfl, rfl, Nat.le_of_ble_eq_true rfl, Nat.le_of_ble_eq_true rfl⟩ rfl rfl hl.1 (Nat.le_of_ble_eq_true rfl) d_Mo_copy_28 ⟨Nat.le_of_ble_eq_true rfl, Nat.le_of_ble_eq_true rfl⟩ (roK fun H locs hB => ?_)
    replace hk := andR hk
    refine lv_bipush (v := 24) hx hb d_Mo_copy_31 (by decide) ?_
    refine lv_icmp_eq (tgt := 68) hx hb d_Mo_copy_33 (by decide) (fun c_4 => ?_) (fun c_4 => ?_)
    · rw [if_pos c_4] at hR hk
      refine lv_iconst (v := (-1)) hx hb d_Mo_copy_68 (by decide) ?_
      obtain ⟨rfl, rfl⟩ := Prod.mk.inj hR
      exact ri hC hB rfl d_Mo_copy_69
    · rw [if_neg c_4] at hR hk
      refine lv_aload_n hx hb d_Mo_copy_36 rfl (lv_at hl 0 rfl) ?_
      refine lv_iconst (v := 1) hx hb d_Mo_copy_37 (by decide) ?_
      refine kV hC hB _ lkM_o rfl (c_Mo_count (wn τ 0 0)  1 (andL hk)) allw_ok mf_Mo_count kw_963 ks_29 kw_961 ⟨rfl, rfl, Nat.le_of_ble_eq_true rfl, Nat.le_of_ble_eq_true rfl⟩ rfl rfl hl.1 (Nat.le_of_ble_eq_true rfl) d_Mo_copy_38 ⟨Nat.le_of_ble_eq_true rfl, Nat.le_of_ble_eq_true rfl⟩ (roK fun H locs hB => ?_)
      replace hk := andR hk
      refine lv_aload_n hx hb d_Mo_copy_41 rfl (lv_at hl 0 rfl) ?_
      refine lv_iload_n hx hb d_Mo_copy_42 rfl (lv_at hl 1 rfl) ?_
      refine kV hC hB _ lkM_o rfl (c_Mo_placementsOn (wn τ 0 0)  x0 (andL hk)) allw_ok mf_Mo_placementsOn kw_1079 ks_47 kw_1077 ⟨rfl, rfl, Nat.le_of_ble_eq_true rfl, Nat.le_of_ble_eq_true rfl⟩ rfl rfl hl.1 (Nat.le_of_ble_eq_true rfl) d_Mo_copy_43 ⟨Nat.le_of_ble_eq_true rfl, Nat.le_of_ble_eq_true rfl⟩ (roK fun H locs hB => ?_)
      replace hk := andR hk
      refine lv_iadd hx hb d_Mo_copy_46 ?_
      refine lv_bipush (v := 60) hx hb d_Mo_copy_47 (by decide) ?_
      refine lv_icmp_gt (tgt := 68) hx hb d_Mo_copy_49 (by decide) (fun c_5 => ?_) (fun c_5 => ?_)
      · rw [if_pos c_5] at hR hk
        refine lv_iconst (v := (-1)) hx hb d_Mo_copy_68 (by decide) ?_
        obtain ⟨rfl, rfl⟩ := Prod.mk.inj hR
        exact ri hC hB rfl d_Mo_copy_69
      · rw [if_neg c_5] at hR hk
        refine lv_aload_n hx hb d_Mo_copy_52 rfl (lv_at hl 0 rfl) ?_
        refine lv_iconst (v := 2) hx hb d_Mo_copy_53 (by decide) ?_
        refine kV hC hB _ lkM_o rfl (c_Mo_count (wn τ 0 0)  2 (andL hk)) allw_ok mf_Mo_count kw_963 ks_29 kw_961 ⟨rfl, rfl, Nat.le_of_ble_eq_true rfl, Nat.le_of_ble_eq_true rfl⟩ rfl rfl hl.1 (Nat.le_of_ble_eq_true rfl) d_Mo_copy_54 ⟨Nat.le_of_ble_eq_true rfl, Nat.le_of_ble_eq_true rfl⟩ (roK fun H locs hB => ?_)
        replace hk := andR hk
        refine lv_aload_n hx hb d_Mo_copy_57 rfl (lv_at hl 0 rfl) ?_
        refine lv_iload_n hx hb d_Mo_copy_58 rfl (lv_at hl 1 rfl) ?_
        refine kV hC hB _ lkM_o rfl (c_Mo_partsOn (wn τ 0 0)  x0 (andL hk)) allw_ok mf_Mo_partsOn kw_1083 ks_48 kw_1081 ⟨rfl, rfl, Nat.le_of_ble_eq_true rfl, Nat.le_of_ble_eq_true rfl⟩ rfl rfl hl.1 (Nat.le_of_ble_eq_true rfl) d_Mo_copy_59 ⟨Nat.le_of_ble_eq_true rfl, Nat.le_of_ble_eq_true rfl⟩ (roK fun H locs hB => ?_)
        replace hk := andR hk
        refine lv_iadd hx hb d_Mo_copy_62 ?_
        refine lv_bipush (v := 30) hx hb d_Mo_copy_63 (by decide) ?_
        refine lv_icmp_le (tgt := 70) hx hb d_Mo_copy_65 (by decide) (fun c_6 => ?_) (fun c_6 => ?_)
        · rw [if_pos c_6] at hR hk
          refine lv_aload_n hx hb d_Mo_copy_70 rfl (lv_at hl 0 rfl) ?_
          refine kV hC hB _ lkM_o rfl (c_Mo_begin (wn τ 0 0)  (andL hk)) allw_ok mf_Mo_begin kw_967 ks_30 kw_965 ⟨rfl, rfl, Nat.le_of_ble_eq_true rfl, Nat.le_of_ble_eq_true rfl⟩ rfl rfl hl.1 (Nat.le_of_ble_eq_true rfl) d_Mo_copy_71 ⟨Nat.le_of_ble_eq_true rfl, Nat.le_of_ble_eq_true rfl⟩ (roK fun H locs hB => ?_)
          replace hk := andR hk
          refine lv_aload_n hx hb d_Mo_copy_74 rfl (lv_at hl 0 rfl) ?_
          refine lv_iconst (v := 0) hx hb d_Mo_copy_75 (by decide) ?_
          refine kV hC hB _ lkM_o rfl (c_Mo_count (m_Mo_begin (wn τ 0 0))  0 (andL hk)) allw_ok mf_Mo_count kw_963 ks_29 kw_961 ⟨rfl, rfl, Nat.le_of_ble_eq_true rfl, Nat.le_of_ble_eq_true rfl⟩ rfl rfl hl.1 (Nat.le_of_ble_eq_true rfl) d_Mo_copy_76 ⟨Nat.le_of_ble_eq_true rfl, Nat.le_of_ble_eq_true rfl⟩ (roK fun H locs hB => ?_)
          replace hk := andR hk
          refine lv_istore_n (lv' := [(2, .int (m_Mo_count (m_Mo_begin (wn τ 0 0)) 0)), (0, .ref (G 4 0)), (1, .int x0)]) hx hb d_Mo_copy_79 rfl hl (by decide) rfl (fun ls hl => ?_)
          refine lv_aload_n hx hb d_Mo_copy_80 rfl (lv_at hl 1 rfl) ?_
          refine gt hC hB _ lkM_o rfl i_Mo 1 (by decide) rfl kw_892 rfl d_Mo_copy_81 ?_
          refine lv_bipush (v := 8) hx hb d_Mo_copy_84 (by decide) ?_
          refine lv_iload_n hx hb d_Mo_copy_86 rfl (lv_at hl 0 rfl) ?_
          refine lv_iadd hx hb d_Mo_copy_87 ?_
          refine lv_aload_n hx hb d_Mo_copy_88 rfl (lv_at hl 1 rfl) ?_
          refine gt hC hB _ lkM_o rfl i_Mo 1 (by decide) rfl kw_892 rfl d_Mo_copy_89 ?_
          refine lv_bipush (v := 8) hx hb d_Mo_copy_92 (by decide) ?_
          refine lv_iload_n hx hb d_Mo_copy_94 rfl (lv_at hl 2 rfl) ?_
          refine lv_iadd hx hb d_Mo_copy_95 ?_
          refine va_lald hx hb hC.2.2.2.2.2.2.2.1.1 hB.1 _ 1 (lkM_l (by decide : 0 < 4)) rfl (of_eq_true (andL hk)) d_Mo_copy_96 ?_
          replace hk := andR hk
          refine as_l rfl hC hB _ 1 (lkM_l (by decide : 0 < 4)) rfl (of_eq_true (andL hk)) d_Mo_copy_97 (ws' := wsM G cI cL (wL (m_Mo_begin (wn τ 0 0)) 0 ((8 + (m_Mo_count (m_Mo_begin (wn τ 0 0)) 0)).toNatClampNeg) (yL (m_Mo_begin (wn τ 0 0)) 0 (8 + x0).toNatClampNeg)) rest) (setM_l (by decide : 0 < 4) _ _) (fun H locs hB => ?_)
          replace hk := andR hk
          refine lv_aload_n hx hb d_Mo_copy_98 rfl (lv_at hl 1 rfl) ?_
          refine gt hC hB _ lkM_o rfl i_Mo 1 (by decide) rfl kw_892 rfl d_Mo_copy_99 ?_
          refine lv_iconst (v := 0) hx hb d_Mo_copy_102 (by decide) ?_
          refine lv_dup2_11 hx hb d_Mo_copy_103 rfl rfl ?_
          refine va_lald hx hb hC.2.2.2.2.2.2.2.1.1 hB.1 _ 1 (lkM_l (by decide : 0 < 4)) rfl (of_eq_true (andL hk)) d_Mo_copy_104 ?_
          replace hk := andR hk
          refine lv_lconst (v := 1) hx hb d_Mo_copy_105 (by decide) ?_
          refine lv_ladd hx hb d_Mo_copy_106 ?_
          refine as_l rfl hC hB _ 1 (lkM_l (by decide : 0 < 4)) rfl (of_eq_true (andL hk)) d_Mo_copy_107 (ws' := wsM G cI cL (wL (wL (m_Mo_begin (wn τ 0 0)) 0 ((8 + (m_Mo_count (m_Mo_begin (wn τ 0 0)) 0)).toNatClampNeg) (yL (m_Mo_begin (wn τ 0 0)) 0 (8 + x0).toNatClampNeg)) 0 ((0 : Int32).toNatClampNeg) ((yL (wL (m_Mo_begin (wn τ 0 0)) 0 ((8 + (m_Mo_count (m_Mo_begin (wn τ 0 0)) 0)).toNatClampNeg) (yL (m_Mo_begin (wn τ 0 0)) 0 (8 + x0).toNatClampNeg)) 0 (0 : Int32).toNatClampNeg) + 1)) rest) (setM_l (by decide : 0 < 4) _ _) (fun H locs hB => ?_)
          replace hk := andR hk
          refine lv_aload_n hx hb d_Mo_copy_108 rfl (lv_at hl 1 rfl) ?_
          refine lv_iload_n hx hb d_Mo_copy_109 rfl (lv_at hl 2 rfl) ?_
          refine lv_ldc2 (v := (-1)) hx hb hC.2.2.2.2.1 (hC.2.2.2.2.2.1 _ kw_1001) d_Mo_copy_110 ?_
          refine kV hC hB _ lkM_o rfl (c_Mo_next (wL (wL (m_Mo_begin (wn τ 0 0)) 0 ((8 + (m_Mo_count (m_Mo_begin (wn τ 0 0)) 0)).toNatClampNeg) (yL (m_Mo_begin (wn τ 0 0)) 0 (8 + x0).toNatClampNeg)) 0 ((0 : Int32).toNatClampNeg) ((yL (wL (m_Mo_begin (wn τ 0 0)) 0 ((8 + (m_Mo_count (m_Mo_begin (wn τ 0 0)) 0)).toNatClampNeg) (yL (m_Mo_begin (wn τ 0 0)) 0 (8 + x0).toNatClampNeg)) 0 (0 : Int32).toNatClampNeg) + 1))  x0 (-1) (andL hk)) allw_ok mf_Mo_next kw_1004 ks_38 kw_1002 ⟨rfl, rfl, Nat.le_of_ble_eq_true rfl, Nat.le_of_ble_eq_true rfl⟩ rfl rfl hl.1 (Nat.le_of_ble_eq_true rfl) d_Mo_copy_113 ⟨Nat.le_of_ble_eq_true rfl, Nat.le_of_ble_eq_true rfl⟩ (roK fun H locs hB => ?_)
          replace hk := andR hk
          refine lv_istore_n (lv' := [(3, .int (m_Mo_next (wL (wL (m_Mo_begin (wn τ 0 0)) 0 ((8 + (m_Mo_count (m_Mo_begin (wn τ 0 0)) 0)).toNatClampNeg) (yL (m_Mo_begin (wn τ 0 0)) 0 (8 + x0).toNatClampNeg)) 0 ((0 : Int32).toNatClampNeg) ((yL (wL (m_Mo_begin (wn τ 0 0)) 0 ((8 + (m_Mo_count (m_Mo_begin (wn τ 0 0)) 0)).toNatClampNeg) (yL (m_Mo_begin (wn τ 0 0)) 0 (8 + x0).toNatClampNeg)) 0 (0 : Int32).toNatClampNeg) + 1)) x0 (-1))), (2, .int (m_Mo_count (m_Mo_begin (wn τ 0 0)) 0)), (0, .ref (G 4 0)), (1, .int x0)]) hx hb d_Mo_copy_116 rfl hl (by decide) rfl (fun ls hl => ?_)
          exact w_Mo_copy_117   hC 62 (wL (wL (m_Mo_begin (wn τ 0 0)) 0 ((8 + (m_Mo_count (m_Mo_begin (wn τ 0 0)) 0)).toNatClampNeg) (yL (m_Mo_begin (wn τ 0 0)) 0 (8 + x0).toNatClampNeg)) 0 ((0 : Int32).toNatClampNeg) ((yL (wL (m_Mo_begin (wn τ 0 0)) 0 ((8 + (m_Mo_count (m_Mo_begin (wn τ 0 0)) 0)).toNatClampNeg) (yL (m_Mo_begin (wn τ 0 0)) 0 (8 + x0).toNatClampNeg)) 0 (0 : Int32).toNatClampNeg) + 1)) x0 (m_Mo_count (m_Mo_begin (wn τ 0 0)) 0) (m_Mo_next (wL (wL (m_Mo_begin (wn τ 0 0)) 0 ((8 + (m_Mo_count (m_Mo_begin (wn τ 0 0)) 0)).toNatClampNeg) (yL (m_Mo_begin (wn τ 0 0)) 0 (8 + x0).toNatClampNeg)) 0 ((0 : Int32).toNatClampNeg) ((yL (wL (m_Mo_begin (wn τ 0 0)) 0 ((8 + (m_Mo_count (m_Mo_begin (wn τ 0 0)) 0)).toNatClampNeg) (yL (m_Mo_begin (wn τ 0 0)) 0 (8 + x0).toNatClampNeg)) 0 (0 : Int32).toNatClampNeg) + 1)) x0 (-1)) (trivial) hR hk _ _ hB ls (lv_sub hl [2, 3, 1, 0] rfl)
        · rw [if_neg c_6] at hR hk
          refine lv_iconst (v := (-1)) hx hb d_Mo_copy_68 (by decide) ?_
          obtain ⟨rfl, rfl⟩ := Prod.mk.inj hR
          exact ri hC hB rfl d_Mo_copy_69
end SMW
