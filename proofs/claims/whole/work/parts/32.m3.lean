def lp_Mo_partsOn_19 (K : SM → Int32 → Int32 → Int32 → Int32) : Nat → SM → Int32 → Int32 → Int32 → Int32 → Int32 → Int32
  | 0, τ, _, _, _, _, _ => 0
  | n + 1, τ, v1, v2, v3, v4, v5 =>
    if 8 ≤ v5 then
      if v4 = 0 then
        K τ v1 (v2 + 0) (v3 + 1)
      else
        K τ v1 (v2 + 1) (v3 + 1)
    else
      if v4 = 0 then
        if (lg_cmp (yL τ 0 ((2192 + (8 * v3)) + v5).toNatClampNeg) (v1.toInt64 + 1)) = 0 then
          lp_Mo_partsOn_19 K n τ v1 v2 v3 1 (v5 + 1)
        else
          lp_Mo_partsOn_19 K n τ v1 v2 v3 0 (v5 + 1)
      else
        lp_Mo_partsOn_19 K n τ v1 v2 v3 1 (v5 + 1)
def kl_Mo_partsOn_19 (KP : SM → Int32 → Int32 → Int32 → Prop) : Nat → SM → Int32 → Int32 → Int32 → Int32 → Int32 → Prop
  | 0, _, _, _, _, _, _ => True
  | n + 1, τ, v1, v2, v3, v4, v5 =>
    if 8 ≤ v5 then
      if v4 = 0 then
        KP τ v1 (v2 + 0) (v3 + 1)
      else
        KP τ v1 (v2 + 1) (v3 + 1)
    else
      if v4 = 0 then
        (vp_in ((2192 + (8 * v3)) + v5) (lnML 0)) ∧
        if (lg_cmp (yL τ 0 ((2192 + (8 * v3)) + v5).toNatClampNeg) (v1.toInt64 + 1)) = 0 then
          kl_Mo_partsOn_19 KP n τ v1 v2 v3 1 (v5 + 1)
        else
          kl_Mo_partsOn_19 KP n τ v1 v2 v3 0 (v5 + 1)
      else
        kl_Mo_partsOn_19 KP n τ v1 v2 v3 1 (v5 + 1)

def lp_Mo_partsOn_4 : Nat → SM → Int32 → Int32 → Int32 → Int32
  | 0, τ, _, _, _ => 0
  | n + 1, τ, v1, v2, v3 =>
    if (m_Mo_count τ 2) ≤ v3 then
      v2
    else
      lp_Mo_partsOn_19 (lp_Mo_partsOn_4 n) ((8 : Int32).toNatClampNeg + 1) τ v1 v2 v3 0 0
def kl_Mo_partsOn_4 : Nat → SM → Int32 → Int32 → Int32 → Prop
  | 0, _, _, _, _ => True
  | n + 1, τ, v1, v2, v3 =>
    (k_Mo_count τ 2) ∧
    if (m_Mo_count τ 2) ≤ v3 then
      True
    else
      kl_Mo_partsOn_19 (kl_Mo_partsOn_4 n) ((8 : Int32).toNatClampNeg + 1) τ v1 v2 v3 0 0

def m_Mo_partsOn (τ : SM) (x0 : Int32) : Int32 :=
  lp_Mo_partsOn_4 ((m_Mo_count τ 2).toNatClampNeg + 1) τ x0 0 0

def k_Mo_partsOn (τ : SM) (x0 : Int32) : Prop :=
  kl_Mo_partsOn_4 ((m_Mo_count τ 2).toNatClampNeg + 1) τ x0 0 0

def m_Mo_rule (τ : SM) (x0 : Int32) : Bool × SM :=
  if x0 = 0 then
    if (lg_cmp (yL (wn τ 0 0) 0 (5 : Int32).toNatClampNeg) x0.toInt64) = 0 then
      (false, (wn τ 0 0))
    else
      (true, (m_Mo_done (wL (m_Mo_begin (wn τ 0 0)) 0 ((5 : Int32).toNatClampNeg) x0.toInt64)))
  else
    if x0 = 1 then
      if (lg_cmp (yL (wn τ 0 0) 0 (5 : Int32).toNatClampNeg) x0.toInt64) = 0 then
        (false, (wn τ 0 0))
      else
        (true, (m_Mo_done (wL (m_Mo_begin (wn τ 0 0)) 0 ((5 : Int32).toNatClampNeg) x0.toInt64)))
    else
      (false, (wn τ 0 1))

def k_Mo_rule (τ : SM) (x0 : Int32) : Prop :=
  if x0 = 0 then
    (vp_in 5 (lnML 0)) ∧
    if (lg_cmp (yL (wn τ 0 0) 0 (5 : Int32).toNatClampNeg) x0.toInt64) = 0 then
      True
    else
      (k_Mo_begin (wn τ 0 0)) ∧
      (vp_in 5 (lnML 0)) ∧
      (k_Mo_done (wL (m_Mo_begin (wn τ 0 0)) 0 ((5 : Int32).toNatClampNeg) x0.toInt64)) ∧
      True
  else
    if x0 = 1 then
      (vp_in 5 (lnML 0)) ∧
      if (lg_cmp (yL (wn τ 0 0) 0 (5 : Int32).toNatClampNeg) x0.toInt64) = 0 then
        True
      else
        (k_Mo_begin (wn τ 0 0)) ∧
        (vp_in 5 (lnML 0)) ∧
        (k_Mo_done (wL (m_Mo_begin (wn τ 0 0)) 0 ((5 : Int32).toNatClampNeg) x0.toInt64)) ∧
        True
    else
      True

def m_Mo_variant (τ : SM) (x0 : Int32) : Int32 × SM :=
  if x0 = (-1) then
    if (m_Mo_count (wn τ 0 0) 3) = 10 then
      ((-1), (wn τ 0 0))
    else
      ((m_Mo_count (m_Mo_begin (wn τ 0 0)) 3), (m_Mo_done (wL (wL (m_Mo_begin (wn τ 0 0)) 0 ((2672 + (m_Mo_count (m_Mo_begin (wn τ 0 0)) 3)).toNatClampNeg) x0.toInt64) 0 ((3 : Int32).toNatClampNeg) ((yL (wL (m_Mo_begin (wn τ 0 0)) 0 ((2672 + (m_Mo_count (m_Mo_begin (wn τ 0 0)) 3)).toNatClampNeg) x0.toInt64) 0 (3 : Int32).toNatClampNeg) + 1))))
  else
    if (bi (m_Mo_isVariant τ x0)) = 0 then
      (0, (wn τ 0 1))
    else
      if (m_Mo_count (wn τ 0 0) 3) = 10 then
        ((-1), (wn τ 0 0))
      else
        ((m_Mo_count (m_Mo_begin (wn τ 0 0)) 3), (m_Mo_done (wL (wL (m_Mo_begin (wn τ 0 0)) 0 ((2672 + (m_Mo_count (m_Mo_begin (wn τ 0 0)) 3)).toNatClampNeg) x0.toInt64) 0 ((3 : Int32).toNatClampNeg) ((yL (wL (m_Mo_begin (wn τ 0 0)) 0 ((2672 + (m_Mo_count (m_Mo_begin (wn τ 0 0)) 3)).toNatClampNeg) x0.toInt64) 0 (3 : Int32).toNatClampNeg) + 1))))

def k_Mo_variant (τ : SM) (x0 : Int32) : Prop :=
  if x0 = (-1) then
    (k_Mo_count (wn τ 0 0) 3) ∧
    if (m_Mo_count (wn τ 0 0) 3) = 10 then
      True
    else
      (k_Mo_begin (wn τ 0 0)) ∧
      (k_Mo_count (m_Mo_begin (wn τ 0 0)) 3) ∧
      (vp_in (2672 + (m_Mo_count (m_Mo_begin (wn τ 0 0)) 3)) (lnML 0)) ∧
      (vp_in 3 (lnML 0)) ∧
      (vp_in 3 (lnML 0)) ∧
      (k_Mo_done (wL (wL (m_Mo_begin (wn τ 0 0)) 0 ((2672 + (m_Mo_count (m_Mo_begin (wn τ 0 0)) 3)).toNatClampNeg) x0.toInt64) 0 ((3 : Int32).toNatClampNeg) ((yL (wL (m_Mo_begin (wn τ 0 0)) 0 ((2672 + (m_Mo_count (m_Mo_begin (wn τ 0 0)) 3)).toNatClampNeg) x0.toInt64) 0 (3 : Int32).toNatClampNeg) + 1))) ∧
      True
  else
    (k_Mo_isVariant τ x0) ∧
    if (bi (m_Mo_isVariant τ x0)) = 0 then
      True
    else
      (k_Mo_count (wn τ 0 0) 3) ∧
      if (m_Mo_count (wn τ 0 0) 3) = 10 then
        True
      else
        (k_Mo_begin (wn τ 0 0)) ∧
        (k_Mo_count (m_Mo_begin (wn τ 0 0)) 3) ∧
        (vp_in (2672 + (m_Mo_count (m_Mo_begin (wn τ 0 0)) 3)) (lnML 0)) ∧
        (vp_in 3 (lnML 0)) ∧
        (vp_in 3 (lnML 0)) ∧
        (k_Mo_done (wL (wL (m_Mo_begin (wn τ 0 0)) 0 ((2672 + (m_Mo_count (m_Mo_begin (wn τ 0 0)) 3)).toNatClampNeg) x0.toInt64) 0 ((3 : Int32).toNatClampNeg) ((yL (wL (m_Mo_begin (wn τ 0 0)) 0 ((2672 + (m_Mo_count (m_Mo_begin (wn τ 0 0)) 3)).toNatClampNeg) x0.toInt64) 0 (3 : Int32).toNatClampNeg) + 1))) ∧
        True

def lp_Mo_pathOf_14 : Nat → SM → Int32 → Int32 → Int32 → Int32 → Int32 × SM
  | 0, τ, _, _, _, _ => (0, τ)
  | n + 1, τ, v1, v2, v3, v4 =>
    if v4 < 0 then
      (v2, τ)
    else
      lp_Mo_pathOf_14 n (wI τ 4 v4.toNatClampNeg (yI τ 1 v3.toNatClampNeg)) v1 v2 (yI (wI τ 4 v4.toNatClampNeg (yI τ 1 v3.toNatClampNeg)) 2 v3.toNatClampNeg) (v4 + (-1))
def kl_Mo_pathOf_14 : Nat → SM → Int32 → Int32 → Int32 → Int32 → Prop
  | 0, _, _, _, _, _ => True
  | n + 1, τ, v1, v2, v3, v4 =>
    if v4 < 0 then
      True
    else
      (vp_in v3 (lnMI 1)) ∧
      (vp_in v4 (lnMI 4)) ∧
      (vp_in v3 (lnMI 2)) ∧
      kl_Mo_pathOf_14 n (wI τ 4 v4.toNatClampNeg (yI τ 1 v3.toNatClampNeg)) v1 v2 (yI (wI τ 4 v4.toNatClampNeg (yI τ 1 v3.toNatClampNeg)) 2 v3.toNatClampNeg) (v4 + (-1))

def m_Mo_pathOf (τ : SM) (x0 : Int32) : Int32 × SM :=
  lp_Mo_pathOf_14 (((yI τ 3 x0.toNatClampNeg) - 1).toNatClampNeg + 2) τ x0 (yI τ 3 x0.toNatClampNeg) x0 ((yI τ 3 x0.toNatClampNeg) - 1)

def k_Mo_pathOf (τ : SM) (x0 : Int32) : Prop :=
  (vp_in x0 (lnMI 3)) ∧
  kl_Mo_pathOf_14 (((yI τ 3 x0.toNatClampNeg) - 1).toNatClampNeg + 2) τ x0 (yI τ 3 x0.toNatClampNeg) x0 ((yI τ 3 x0.toNatClampNeg) - 1)

section SMW
variable {l : Launch} {D : va_G} {N0 N1 : Nat} {G : Nat → Nat → Nat} {cI cL cQ : ClassId} {rest : va_W}
set_option maxHeartbeats 400000 in
set_option maxRecDepth 100000 in
theorem w_Mo_partsOn_19 {p : Program} {e : Env} {s : State} {m : MethodId} {args : Array Value} {below : List Frame} {meth : Method} {c : Code} {RES : Int32} (K : SM → Int32 → Int32 → Int32 → Int32) (KP : SM → Int32 → Int32 → Int32 → Prop)  (τ : SM)  (hC : cx D classes (tyL cI cL cQ) NWL ALLW N1 p s m args meth c b_Mo_partsOn 6 (some .int) R_Mo) {nO : Nat} (hK : ∀ (v1 : Int32) (v2 : Int32) (v3 : Int32), upI nO (m_Mo_count τ 2) v3 → K τ  v1 v2 v3 = RES → (KP τ  v1 v2 v3) = True → ∀ (H : Heap) (locs : List Loc), bd D classes N0 N1 (wsM G cI cL τ rest) s H locs → ∀ (ls : Array Slot), lv_has ls 6 [(0, .ref (G 4 0)), (1, .int v1), (2, .int v2), (3, .int v3)] → W p l e { frames := 1, cells := 0, slots := 0, locals := 21 } s m args below meth c H locs 0 0 (MQ below (qx D classes N0 N1 (some (.int RES)) (fun w => w = wsM G cI cL τ rest)) args s 0 0 (ga N1)) (F0 m 4 ls [])) :
    ∀ (n : Nat) (v1 : Int32) (v2 : Int32) (v3 : Int32) (v4 : Int32) (v5 : Int32), (upI n (8 : Int32) v5 ∧ upI nO (m_Mo_count τ 2) (v3 + 1)) → lp_Mo_partsOn_19 K n τ  v1 v2 v3 v4 v5 = RES → (kl_Mo_partsOn_19 KP n τ  v1 v2 v3 v4 v5) = True → ∀ (H : Heap) (locs : List Loc), bd D classes N0 N1 (wsM G cI cL τ rest) s H locs → ∀ (ls : Array Slot), lv_has ls 6 [(0, .ref (G 4 0)), (1, .int v1), (2, .int v2), (3, .int v3), (4, .int v4), (5, .int v5)] → W p l e { frames := 1, cells := 0, slots := 0, locals := 21 } s m args below meth c H locs 0 0 (MQ below (qx D classes N0 N1 (some (.int RES)) (fun w => w = wsM G cI cL τ rest)) args s 0 0 (ga N1)) (F0 m 19 ls []) := by
  have hx := hC.1
  have hb := hC.2.1
  intro n
  induction n with
  | zero =>
    intro v1 v2 v3 v4 v5 hI
    exact absurd hI (fun h => up_zero h.1)
  | succ n ih =>
    intro v1 v2 v3 v4 v5 hI hR hk H locs hB ls hl
    rw [lp_Mo_partsOn_19] at hR
    rw [kl_Mo_partsOn_19] at hk
    refine lv_iload hx hb d_Mo_partsOn_19 (lv_at hl 5 rfl) ?_
    refine lv_bipush (v := 8) hx hb d_Mo_partsOn_21 (by decide) ?_
    refine lv_icmp_ge (tgt := 68) hx hb d_Mo_partsOn_23 (by decide) (fun c_1 => ?_) (fun c_1 => ?_)
    · rw [if_pos c_1] at hR hk
      refine lv_iload_n hx hb d_Mo_partsOn_68 rfl (lv_at hl 2 rfl) ?_
      refine lv_iload hx hb d_Mo_partsOn_69 (lv_at hl 4 rfl) ?_
      refine lv_if_eq (tgt := 78) hx hb d_Mo_partsOn_71 (by decide) (fun c_2 => ?_) (fun c_2 => ?_)
      · rw [if_pos c_2] at hR hk
        refine lv_iconst (v := 0) hx hb d_Mo_partsOn_78 (by decide) ?_
        refine lv_iadd hx hb d_Mo_partsOn_79 ?_
        refine lv_istore_n (lv' := [(2, .int (v2 + 0)), (0, .ref (G 4 0)), (1, .int v1), (3, .int v3), (4, .int v4), (5, .int v5)]) hx hb d_Mo_partsOn_80 rfl hl (by decide) rfl (fun ls hl => ?_)
        refine lv_iinc (v := (v3 + 1)) (lv' := [(3, .int (v3 + 1)), (2, .int (v2 + 0)), (0, .ref (G 4 0)), (1, .int v1), (4, .int v4), (5, .int v5)]) hx hb d_Mo_partsOn_81 hl (k := 3) rfl rfl (by decide) rfl (fun ls hl => ?_)
        refine lv_goto (tgt := 4) hx hb d_Mo_partsOn_84 (by decide) ?_
        exact hK v1 (v2 + 0) (v3 + 1) (hI.2) hR hk _ _ hB ls (lv_sub hl [2, 3, 1, 0] rfl)
      · rw [if_neg c_2] at hR hk
        refine lv_iconst (v := 1) hx hb d_Mo_partsOn_74 (by decide) ?_
        refine lv_goto (tgt := 79) hx hb d_Mo_partsOn_75 (by decide) ?_
        refine lv_iadd hx hb d_Mo_partsOn_79 ?_
        refine lv_istore_n (lv' := [(2, .int (v2 + 1)), (0, .ref (G 4 0)), (1, .int v1), (3, .int v3), (4, .int v4), (5, .int v5)]) hx hb d_Mo_partsOn_80 rfl hl (by decide) rfl (fun ls hl => ?_)
        refine lv_iinc (v := (v3 + 1)) (lv' := [(3, .int (v3 + 1)), (2, .int (v2 + 1)), (0, .ref (G 4 0)), (1, .int v1), (4, .int v4), (5, .int v5)]) hx hb d_Mo_partsOn_81 hl (k := 3) rfl rfl (by decide) rfl (fun ls hl => ?_)
        refine lv_goto (tgt := 4) hx hb d_Mo_partsOn_84 (by decide) ?_
        exact hK v1 (v2 + 1) (v3 + 1) (hI.2) hR hk _ _ hB ls (lv_sub hl [2, 3, 1, 0] rfl)
    · rw [if_neg c_1] at hR hk
      refine lv_iload hx hb d_Mo_partsOn_26 (lv_at hl 4 rfl) ?_
      refine lv_if_ne (tgt := 55) hx hb d_Mo_partsOn_28 (by decide) (fun c_3 => ?_) (fun c_3 => ?_)
      · rw [if_neg c_3] at hR hk
        refine lv_iconst (v := 1) hx hb d_Mo_partsOn_55 (by decide) ?_
        refine lv_goto (tgt := 60) hx hb d_Mo_partsOn_56 (by decide) ?_
        refine lv_istore (lv' := [(4, .int 1), (0, .ref (G 4 0)), (1, .int v1), (2, .int v2), (3, .int v3), (5, .int v5)]) hx hb d_Mo_partsOn_60 hl (by decide) rfl (fun ls hl => ?_)
        refine lv_iinc (v := (v5 + 1)) (lv' := [(5, .int (v5 + 1)), (4, .int 1), (0, .ref (G 4 0)), (1, .int v1), (2, .int v2), (3, .int v3)]) hx hb d_Mo_partsOn_62 hl (k := 5) rfl rfl (by decide) rfl (fun ls hl => ?_)
        refine lv_goto (tgt := 19) hx hb d_Mo_partsOn_65 (by decide) ?_
        exact ih v1 v2 v3 1 (v5 + 1) (⟨up_step hI.1 (by assumption), hI.2⟩) hR hk _ _ hB ls (lv_sub hl [2, 3, 4, 5, 1, 0] rfl)
      · rw [if_pos c_3] at hR hk
        refine lv_aload_n hx hb d_Mo_partsOn_31 rfl (lv_at hl 0 rfl) ?_
        refine gt hC hB _ lkM_o rfl i_Mo 1 (by decide) rfl kw_892 rfl d_Mo_partsOn_32 ?_
        refine lv_sipush (v := 2192) hx hb d_Mo_partsOn_35 (by decide) ?_
        refine lv_bipush (v := 8) hx hb d_Mo_partsOn_38 (by decide) ?_
        refine lv_iload_n hx hb d_Mo_partsOn_40 rfl (lv_at hl 3 rfl) ?_
        refine lv_imul hx hb d_Mo_partsOn_41 ?_
        refine lv_iadd hx hb d_Mo_partsOn_42 ?_
        refine lv_iload hx hb d_Mo_partsOn_43 (lv_at hl 5 rfl) ?_
        refine lv_iadd hx hb d_Mo_partsOn_45 ?_
        refine va_lald hx hb hC.2.2.2.2.2.2.2.1.1 hB.1 _ 1 (lkM_l (by decide : 0 < 4)) rfl (of_eq_true (andL hk)) d_Mo_partsOn_46 ?_
        replace hk := andR hk
        refine lv_iload_n hx hb d_Mo_partsOn_47 rfl (lv_at hl 1 rfl) ?_
        refine lv_i2l hx hb d_Mo_partsOn_48 rfl ?_
        refine lv_lconst (v := 1) hx hb d_Mo_partsOn_49 (by decide) ?_
        refine lv_ladd hx hb d_Mo_partsOn_50 ?_
        refine W.lcmp hx hb d_Mo_partsOn_51 ?_
        refine lv_if_ne (tgt := 59) hx hb d_Mo_partsOn_52 (by decide) (fun c_4 => ?_) (fun c_4 => ?_)
        · rw [if_neg c_4] at hR hk
          refine lv_iconst (v := 0) hx hb d_Mo_partsOn_59 (by decide) ?_
          refine lv_istore (lv' := [(4, .int 0), (0, .ref (G 4 0)), (1, .int v1), (2, .int v2), (3, .int v3), (5, .int v5)]) hx hb d_Mo_partsOn_60 hl (by decide) rfl (fun ls hl => ?_)
          refine lv_iinc (v := (v5 + 1)) (lv' := [(5, .int (v5 + 1)), (4, .int 0), (0, .ref (G 4 0)), (1, .int v1), (2, .int v2), (3, .int v3)]) hx hb d_Mo_partsOn_62 hl (k := 5) rfl rfl (by decide) rfl (fun ls hl => ?_)
          refine lv_goto (tgt := 19) hx hb d_Mo_partsOn_65 (by decide) ?_
          exact ih v1 v2 v3 0 (v5 + 1) (⟨up_step hI.1 (by assumption), hI.2⟩) hR hk _ _ hB ls (lv_sub hl [2, 3, 4, 5, 1, 0] rfl)
        · rw [if_pos c_4] at hR hk
          refine lv_iconst (v := 1) hx hb d_Mo_partsOn_55 (by decide) ?_
          refine lv_goto (tgt := 60) hx hb d_Mo_partsOn_56 (by decide) ?_
          refine lv_istore (lv' := [(4, .int 1), (0, .ref (G 4 0)), (1, .int v1), (2, .int v2), (3, .int v3), (5, .int v5)]) hx hb d_Mo_partsOn_60 hl (by decide) rfl (fun ls hl => ?_)
          refine lv_iinc (v := (v5 + 1)) (lv' := [(5, .int (v5 + 1)), (4, .int 1), (0, .ref (G 4 0)), (1, .int v1), (2, .int v2), (3, .int v3)]) hx hb d_Mo_partsOn_62 hl (k := 5) rfl rfl (by decide) rfl (fun ls hl => ?_)
          refine lv_goto (tgt := 19) hx hb d_Mo_partsOn_65 (by decide) ?_
          exact ih v1 v2 v3 1 (v5 + 1) (⟨up_step hI.1 (by assumption), hI.2⟩) hR hk _ _ hB ls (lv_sub hl [2, 3, 4, 5, 1, 0] rfl)

set_option maxHeartbeats 400000 in
set_option maxRecDepth 100000 in
theorem w_Mo_partsOn_4 {p : Program} {e : Env} {s : State} {m : MethodId} {args : Array Value} {below : List Frame} {meth : Method} {c : Code} {RES : Int32}  (τ : SM)  (hC : cx D classes (tyL cI cL cQ) NWL ALLW N1 p s m args meth c b_Mo_partsOn 6 (some .int) R_Mo) :
    ∀ (n : Nat) (v1 : Int32) (v2 : Int32) (v3 : Int32), upI n (m_Mo_count τ 2) v3 → lp_Mo_partsOn_4 n τ  v1 v2 v3 = RES → (kl_Mo_partsOn_4 n τ  v1 v2 v3) = True → ∀ (H : Heap) (locs : List Loc), bd D classes N0 N1 (wsM G cI cL τ rest) s H locs → ∀ (ls : Array Slot), lv_has ls 6 [(0, .ref (G 4 0)), (1, .int v1), (2, .int v2), (3, .int v3)] → W p l e { frames := 1, cells := 0, slots := 0, locals := 21 } s m args below meth c H locs 0 0 (MQ below (qx D classes N0 N1 (some (.int RES)) (fun w => w = wsM G cI cL τ rest)) args s 0 0 (ga N1)) (F0 m 4 ls []) := by
  have hx := hC.1
  have hb := hC.2.1
  intro n
  induction n with
  | zero =>
    intro v1 v2 v3 hI
    exact absurd hI up_zero
  | succ n ih =>
    intro v1 v2 v3 hI hR hk H locs hB ls hl
    rw [lp_Mo_partsOn_4] at hR
    rw [kl_Mo_partsOn_4] at hk
    refine lv_iload_n hx hb d_Mo_partsOn_4 rfl (lv_at hl 3 rfl) ?_
    refine lv_aload_n hx hb d_Mo_partsOn_5 rfl (lv_at hl 0 rfl) ?_
    refine lv_iconst (v := 2) hx hb d_Mo_partsOn_6 (by decide) ?_
    refine kV hC hB _ lkM_o rfl (c_Mo_count τ  2 (andL hk)) allw_ok mf_Mo_count kw_963 ks_29 kw_961 ⟨rfl, rfl, Nat.le_of_ble_eq_true rfl, Nat.le_of_ble_eq_true rfl⟩ rfl rfl hl.1 (Nat.le_of_ble_eq_true rfl) d_Mo_partsOn_7 ⟨Nat.le_of_ble_eq_true rfl, Nat.le_of_ble_eq_true rfl⟩ (roK fun H locs hB => ?_)
    replace hk := andR hk
    refine lv_icmp_ge (tgt := 87) hx hb d_Mo_partsOn_10 (by decide) (fun c_1 => ?_) (fun c_1 => ?_)
    · rw [if_pos c_1] at hR hk
      refine lv_iload_n hx hb d_Mo_partsOn_87 rfl (lv_at hl 2 rfl) ?_
      subst hR
      exact ri hC hB rfl d_Mo_partsOn_88
    · rw [if_neg c_1] at hR hk
      refine lv_iconst (v := 0) hx hb d_Mo_partsOn_13 (by decide) ?_
      refine lv_istore (lv' := [(4, .int 0), (0, .ref (G 4 0)), (1, .int v1), (2, .int v2), (3, .int v3)]) hx hb d_Mo_partsOn_14 hl (by decide) rfl (fun ls hl => ?_)
      refine lv_iconst (v := 0) hx hb d_Mo_partsOn_16 (by decide) ?_
      refine lv_istore (lv' := [(5, .int 0), (4, .int 0), (0, .ref (G 4 0)), (1, .int v1), (2, .int v2), (3, .int v3)]) hx hb d_Mo_partsOn_17 hl (by decide) rfl (fun ls hl => ?_)
      exact w_Mo_partsOn_19 (lp_Mo_partsOn_4 n) (kl_Mo_partsOn_4 n)  τ  hC ih ((8 : Int32).toNatClampNeg + 1) v1 v2 v3 0 0 (⟨up_init _, up_step hI (by assumption)⟩) hR hk _ _ hB ls (lv_sub hl [2, 3, 4, 5, 1, 0] rfl)

set_option maxHeartbeats 400000 in
set_option maxRecDepth 100000 in
theorem c_Mo_partsOn  (τ : SM)  (x0 : Int32) (hk : (k_Mo_partsOn τ x0) = True) : CM l y_Mo_partsOn b_Mo_partsOn 6 (some .int) { frames := 1, cells := 0, slots := 0, locals := 21 } D (tyL cI cL cQ) N0 N1 [.ref (G 4 0), .int x0] (wsM G cI cL τ rest) (some (.int (m_Mo_partsOn τ x0))) (fun w => w = wsM G cI cL τ rest) 0 0 := by
  generalize hR : m_Mo_partsOn τ x0 = RES
  refine met_of (own := R_Mo) (by decide) rfl nwl_ok ?_
  intro p e s m below meth c hC hin hB
  have hx := hC.1
  have hb := hC.2.1
  have hl := lv_entry ([.ref (G 4 0), .int x0]) (n := 6) (Nat.le_of_ble_eq_true rfl)
  rw [lg_entry_eq]
  generalize (lg_sl ([.ref (G 4 0), .int x0]) ++ List.replicate (6 - (lg_sl ([.ref (G 4 0), .int x0])).length) Slot.unset).toArray = ls at hl ⊢
  have hl : lv_has ls 6 [(0, .ref (G 4 0)), (1, .int x0)] := hl
  rw [m_Mo_partsOn] at hR
  rw [k_Mo_partsOn] at hk
  refine lv_iconst (v := 0) hx hb d_Mo_partsOn_0 (by decide) ?_
  refine lv_istore_n (lv' := [(2, .int 0), (0, .ref (G 4 0)), (1, .int x0)]) hx hb d_Mo_partsOn_1 rfl hl (by decide) rfl (fun ls hl => ?_)
  refine lv_iconst (v := 0) hx hb d_Mo_partsOn_2 (by decide) ?_
  refine lv_istore_n (lv' := [(3, .int 0), (2, .int 0), (0, .ref (G 4 0)), (1, .int x0)]) hx hb d_Mo_partsOn_3 rfl hl (by decide) rfl (fun ls hl => ?_)
  exact w_Mo_partsOn_4  τ  hC ((m_Mo_count τ 2).toNatClampNeg + 1) x0 0 0 (up_init _) hR hk _ _ hB ls (lv_sub hl [2, 3, 1, 0] rfl)

set_option maxHeartbeats 400000 in
set_option maxRecDepth 100000 in
theorem c_Mo_rule  (τ : SM)  (x0 : Int32) (hk : (k_Mo_rule τ x0) = True) : CM l y_Mo_rule b_Mo_rule 2 (some .boolean) { frames := 1, cells := 0, slots := 0, locals := 22 } D (tyL cI cL cQ) N0 N0 [.ref (G 4 0), .int x0] (wsM G cI cL τ rest) (some (.int (bi ((m_Mo_rule τ x0).1)))) (fun w => w = wsM G cI cL ((m_Mo_rule τ x0).2) rest) 0 0 := by
  generalize hR : m_Mo_rule τ x0 = RES
  obtain ⟨RV, RS⟩ := RES
  dsimp only
  refine met_of (own := R_Mo) (by decide) rfl nwl_ok ?_
  intro p e s m below meth c hC hin hB
  have hx := hC.1
  have hb := hC.2.1
  have hl := lv_entry ([.ref (G 4 0), .int x0]) (n := 2) (Nat.le_of_ble_eq_true rfl)
  rw [lg_entry_eq]
  generalize (lg_sl ([.ref (G 4 0), .int x0]) ++ List.replicate (2 - (lg_sl ([.ref (G 4 0), .int x0])).length) Slot.unset).toArray = ls at hl ⊢
  have hl : lv_has ls 2 [(0, .ref (G 4 0)), (1, .int x0)] := hl
  rw [m_Mo_rule] at hR
  rw [k_Mo_rule] at hk
  refine lv_aload_n hx hb d_Mo_rule_0 rfl (lv_at hl 0 rfl) ?_
  refine lv_iload_n hx hb d_Mo_rule_1 rfl (lv_at hl 1 rfl) ?_
  refine lv_if_eq (tgt := 10) hx hb d_Mo_rule_2 (by decide) (fun c_1 => ?_) (fun c_1 => ?_)
  · rw [if_pos c_1] at hR hk
    refine lv_iconst (v := 0) hx hb d_Mo_rule_10 (by decide) ?_
    refine lv_goto (tgt := 15) hx hb d_Mo_rule_11 (by decide) ?_
    refine pt (ty := .int) rfl hC hB _ lkM_o rfl i_Mo t_Mo t_Mo_ok n_Mo 0 (by decide) rfl rfl kw_891 (by decide +kernel) rfl rfl (Nat.le_of_ble_eq_true rfl) d_Mo_rule_15 (ws' := wsM G cI cL (wn τ 0 0) rest) setM_n0 (fun H locs hB => ?_)
    refine lv_aload_n hx hb d_Mo_rule_18 rfl (lv_at hl 0 rfl) ?_
    refine gt (v := .int 0) hC hB _ lkM_o rfl i_Mo 0 (by decide) rfl kw_891 rfl d_Mo_rule_19 ?_
    refine lv_if_ne (tgt := 37) hx hb d_Mo_rule_22 (by decide) (fun c_2 => absurd c_2 (by decide)) (fun c_2 => ?_)
    refine lv_aload_n hx hb d_Mo_rule_25 rfl (lv_at hl 0 rfl) ?_
    refine gt hC hB _ lkM_o rfl i_Mo 1 (by decide) rfl kw_892 rfl d_Mo_rule_26 ?_
    refine lv_iconst (v := 5) hx hb d_Mo_rule_29 (by decide) ?_
    refine va_lald hx hb hC.2.2.2.2.2.2.2.1.1 hB.1 _ 1 (lkM_l (by decide : 0 < 4)) rfl (of_eq_true (andL hk)) d_Mo_rule_30 ?_
    replace hk := andR hk
    refine lv_iload_n hx hb d_Mo_rule_31 rfl (lv_at hl 1 rfl) ?_
    refine lv_i2l hx hb d_Mo_rule_32 rfl ?_
    refine W.lcmp hx hb d_Mo_rule_33 ?_
    refine lv_if_ne (tgt := 39) hx hb d_Mo_rule_34 (by decide) (fun c_3 => ?_) (fun c_3 => ?_)
    · rw [if_neg c_3] at hR hk
      refine lv_aload_n hx hb d_Mo_rule_39 rfl (lv_at hl 0 rfl) ?_
      refine kV hC hB _ lkM_o rfl (c_Mo_begin (wn τ 0 0)  (andL hk)) allw_ok mf_Mo_begin kw_967 ks_30 kw_965 ⟨rfl, rfl, Nat.le_of_ble_eq_true rfl, Nat.le_of_ble_eq_true rfl⟩ rfl rfl hl.1 (Nat.le_of_ble_eq_true rfl) d_Mo_rule_40 ⟨Nat.le_of_ble_eq_true rfl, Nat.le_of_ble_eq_true rfl⟩ (roK fun H locs hB => ?_)
      replace hk := andR hk
      refine lv_aload_n hx hb d_Mo_rule_43 rfl (lv_at hl 0 rfl) ?_
      refine gt hC hB _ lkM_o rfl i_Mo 1 (by decide) rfl kw_892 rfl d_Mo_rule_44 ?_
      refine lv_iconst (v := 5) hx hb d_Mo_rule_47 (by decide) ?_
      refine lv_iload_n hx hb d_Mo_rule_48 rfl (lv_at hl 1 rfl) ?_
      refine lv_i2l hx hb d_Mo_rule_49 rfl ?_
      refine as_l rfl hC hB _ 1 (lkM_l (by decide : 0 < 4)) rfl (of_eq_true (andL hk)) d_Mo_rule_50 (ws' := wsM G cI cL (wL (m_Mo_begin (wn τ 0 0)) 0 ((5 : Int32).toNatClampNeg) x0.toInt64) rest) (setM_l (by decide : 0 < 4) _ _) (fun H locs hB => ?_)
      replace hk := andR hk
      refine lv_aload_n hx hb d_Mo_rule_51 rfl (lv_at hl 0 rfl) ?_
      refine kV hC hB _ lkM_o rfl (c_Mo_done (wL (m_Mo_begin (wn τ 0 0)) 0 ((5 : Int32).toNatClampNeg) x0.toInt64)  (andL hk)) allw_ok mf_Mo_done kw_971 ks_31 kw_969 ⟨rfl, rfl, Nat.le_of_ble_eq_true rfl, Nat.le_of_ble_eq_true rfl⟩ rfl rfl hl.1 (Nat.le_of_ble_eq_true rfl) d_Mo_rule_52 ⟨Nat.le_of_ble_eq_true rfl, Nat.le_of_ble_eq_true rfl⟩ (roK fun H locs hB => ?_)
      replace hk := andR hk
      refine lv_iconst (v := 1) hx hb d_Mo_rule_55 (by decide) ?_
      obtain ⟨rfl, rfl⟩ := Prod.mk.inj hR
      exact rz (b := true) hC hB rfl d_Mo_rule_56
    · rw [if_pos c_3] at hR hk
      refine lv_iconst (v := 0) hx hb d_Mo_rule_37 (by decide) ?_
      obtain ⟨rfl, rfl⟩ := Prod.mk.inj hR
      exact rz (b := false) hC hB rfl d_Mo_rule_38
  · rw [if_neg c_1] at hR hk
    refine lv_iload_n hx hb d_Mo_rule_5 rfl (lv_at hl 1 rfl) ?_
    refine lv_iconst (v := 1) hx hb d_Mo_rule_6 (by decide) ?_
    refine lv_icmp_ne (tgt := 14) hx hb d_Mo_rule_7 (by decide) (fun c_4 => ?_) (fun c_4 => ?_)
    · rw [if_neg c_4] at hR hk
      refine lv_iconst (v := 1) hx hb d_Mo_rule_14 (by decide) ?_
      refine pt (ty := .int) rfl hC hB _ lkM_o rfl i_Mo t_Mo t_Mo_ok n_Mo 0 (by decide) rfl rfl kw_891 (by decide +kernel) rfl rfl (Nat.le_of_ble_eq_true rfl) d_Mo_rule_15 (ws' := wsM G cI cL (wn τ 0 1) rest) setM_n0 (fun H locs hB => ?_)
      refine lv_aload_n hx hb d_Mo_rule_18 rfl (lv_at hl 0 rfl) ?_
      refine gt (v := .int 1) hC hB _ lkM_o rfl i_Mo 0 (by decide) rfl kw_891 rfl d_Mo_rule_19 ?_
      refine lv_if_ne (tgt := 37) hx hb d_Mo_rule_22 (by decide) (fun c_7 => ?_) (fun c_7 => absurd c_7 (by decide))
      refine lv_iconst (v := 0) hx hb d_Mo_rule_37 (by decide) ?_
      obtain ⟨rfl, rfl⟩ := Prod.mk.inj hR
      exact rz (b := false) hC hB rfl d_Mo_rule_38
    · rw [if_pos c_4] at hR hk
      refine lv_iconst (v := 0) hx hb d_Mo_rule_10 (by decide) ?_
      refine lv_goto (tgt := 15) hx hb d_Mo_rule_11 (by decide) ?_
      refine pt (ty := .int) rfl hC hB _ lkM_o rfl i_Mo t_Mo t_Mo_ok n_Mo 0 (by decide) rfl rfl kw_891 (by decide +kernel) rfl rfl (Nat.le_of_ble_eq_true rfl) d_Mo_rule_15 (ws' := wsM G cI cL (wn τ 0 0) rest) setM_n0 (fun H locs hB => ?_)
      refine lv_aload_n hx hb d_Mo_rule_18 rfl (lv_at hl 0 rfl) ?_
      refine gt (v := .int 0) hC hB _ lkM_o rfl i_Mo 0 (by decide) rfl kw_891 rfl d_Mo_rule_19 ?_
      refine lv_if_ne (tgt := 37) hx hb d_Mo_rule_22 (by decide) (fun c_5 => absurd c_5 (by decide)) (fun c_5 => ?_)
      refine lv_aload_n hx hb d_Mo_rule_25 rfl (lv_at hl 0 rfl) ?_
      refine gt hC hB _ lkM_o rfl i_Mo 1 (by decide) rfl kw_892 rfl d_Mo_rule_26 ?_
      refine lv_iconst (v := 5) hx hb d_Mo_rule_29 (by decide) ?_
      refine va_lald hx hb hC.2.2.2.2.2.2.2.1.1 hB.1 _ 1 (lkM_l (by decide : 0 < 4)) rfl (of_eq_true (andL hk)) d_Mo_rule_30 ?_
      replace hk := andR hk
      refine lv_iload_n hx hb d_Mo_rule_31 rfl (lv_at hl 1 rfl) ?_
      refine lv_i2l hx hb d_Mo_rule_32 rfl ?_
      refine W.lcmp hx hb d_Mo_rule_33 ?_
      refine lv_if_ne (tgt := 39) hx hb d_Mo_rule_34 (by decide) (fun c_6 => ?_) (fun c_6 => ?_)
      · rw [if_neg c_6] at hR hk
        refine lv_aload_n hx hb d_Mo_rule_39 rfl (lv_at hl 0 rfl) ?_
        refine kV hC hB _ lkM_o rfl (c_Mo_begin (wn τ 0 0)  (andL hk)) allw_ok mf_Mo_begin kw_967 ks_30 kw_965 ⟨rfl, rfl, Nat.le_of_ble_eq_true rfl, Nat.le_of_ble_eq_true rfl⟩ rfl rfl hl.1 (Nat.le_of_ble_eq_true rfl) d_Mo_rule_40 ⟨Nat.le_of_ble_eq_true rfl, Nat.le_of_ble_eq_true rfl⟩ (roK fun H locs hB => ?_)
        replace hk := andR hk
        refine lv_aload_n hx hb d_Mo_rule_43 rfl (lv_at hl 0 rfl) ?_
        refine gt hC hB _ lkM_o rfl i_Mo 1 (by decide) rfl kw_892 rfl d_Mo_rule_44 ?_
        refine lv_iconst (v := 5) hx hb d_Mo_rule_47 (by decide) ?_
        refine lv_iload_n hx hb d_Mo_rule_48 rfl (lv_at hl 1 rfl) ?_
        refine lv_i2l hx hb d_Mo_rule_49 rfl ?_
        refine as_l rfl hC hB _ 1 (lkM_l (by decide : 0 < 4)) rfl (of_eq_true (andL hk)) d_Mo_rule_50 (ws' := wsM G cI cL (wL (m_Mo_begin (wn τ 0 0)) 0 ((5 : Int32).toNatClampNeg) x0.toInt64) rest) (setM_l (by decide : 0 < 4) _ _) (fun H locs hB => ?_)
        replace hk := andR hk
        refine lv_aload_n hx hb d_Mo_rule_51 rfl (lv_at hl 0 rfl) ?_
        refine kV hC hB _ lkM_o rfl (c_Mo_done (wL (m_Mo_begin (wn τ 0 0)) 0 ((5 : Int32).toNatClampNeg) x0.toInt64)  (andL hk)) allw_ok mf_Mo_done kw_971 ks_31 kw_969 ⟨rfl, rfl, Nat.le_of_ble_eq_true rfl, Nat.le_of_ble_eq_true rfl⟩ rfl rfl hl.1 (Nat.le_of_ble_eq_true rfl) d_Mo_rule_52 ⟨Nat.le_of_ble_eq_true rfl, Nat.le_of_ble_eq_true rfl⟩ (roK fun H locs hB => ?_)
        replace hk := andR hk
        refine lv_iconst (v := 1) hx hb d_Mo_rule_55 (by decide) ?_
        obtain ⟨rfl, rfl⟩ := Prod.mk.inj hR
        exact rz (b := true) hC hB rfl d_Mo_rule_56
      · rw [if_pos c_6] at hR hk
        refine lv_iconst (v := 0) hx hb d_Mo_rule_37 (by decide) ?_
        obtain ⟨rfl, rfl⟩ := Prod.mk.inj hR
        exact rz (b := false) hC hB rfl d_Mo_rule_38

set_option maxHeartbeats 400000 in
set_option maxRecDepth 100000 in
theorem c_Mo_variant  (τ : SM)  (x0 : Int32) (hk : (k_Mo_variant τ x0) = True) : CM l y_Mo_variant b_Mo_variant 3 (some .int) { frames := 2, cells := 0, slots := 0, locals := 42 } D (tyL cI cL cQ) N0 N0 [.ref (G 4 0), .int x0] (wsM G cI cL τ rest) (some (.int ((m_Mo_variant τ x0).1))) (fun w => w = wsM G cI cL ((m_Mo_variant τ x0).2) rest) 0 0 := by
  generalize hR : m_Mo_variant τ x0 = RES
  obtain ⟨RV, RS⟩ := RES
  dsimp only
  refine met_of (own := R_Mo) (by decide) rfl nwl_ok ?_
  intro p e s m below meth c hC hin hB
  have hx := hC.1
  have hb := hC.2.1
  have hl := lv_entry ([.ref (G 4 0), .int x0]) (n := 3) (Nat.le_of_ble_eq_true rfl)
  rw [lg_entry_eq]
  generalize (lg_sl ([.ref (G 4 0), .int x0]) ++ List.replicate (3 - (lg_sl ([.ref (G 4 0), .int x0])).length) Slot.unset).toArray = ls at hl ⊢
  have hl : lv_has ls 3 [(0, .ref (G 4 0)), (1, .int x0)] := hl
  rw [m_Mo_variant] at hR
  rw [k_Mo_variant] at hk
  refine lv_aload_n hx hb d_Mo_variant_0 rfl (lv_at hl 0 rfl) ?_
  refine lv_iload_n hx hb d_Mo_variant_1 rfl (lv_at hl 1 rfl) ?_
  refine lv_iconst (v := (-1)) hx hb d_Mo_variant_2 (by decide) ?_
  refine lv_icmp_eq (tgt := 14) hx hb d_Mo_variant_3 (by decide) (fun c_1 => ?_) (fun c_1 => ?_)
  · rw [if_pos c_1] at hR hk
    refine lv_iconst (v := 0) hx hb d_Mo_variant_14 (by decide) ?_
    refine lv_goto (tgt := 19) hx hb d_Mo_variant_15 (by decide) ?_
    refine pt (ty := .int) rfl hC hB _ lkM_o rfl i_Mo t_Mo t_Mo_ok n_Mo 0 (by decide) rfl rfl kw_891 (by decide +kernel) rfl rfl (Nat.le_of_ble_eq_true rfl) d_Mo_variant_19 (ws' := wsM G cI cL (wn τ 0 0) rest) setM_n0 (fun H locs hB => ?_)
    refine lv_aload_n hx hb d_Mo_variant_22 rfl (lv_at hl 0 rfl) ?_
    refine gt (v := .int 0) hC hB _ lkM_o rfl i_Mo 0 (by decide) rfl kw_891 rfl d_Mo_variant_23 ?_
    refine lv_if_eq (tgt := 31) hx hb d_Mo_variant_26 (by decide) (fun c_2 => ?_) (fun c_2 => absurd c_2 (by decide))
    refine lv_aload_n hx hb d_Mo_variant_31 rfl (lv_at hl 0 rfl) ?_
    refine lv_iconst (v := 3) hx hb d_Mo_variant_32 (by decide) ?_
    refine kV hC hB _ lkM_o rfl (c_Mo_count (wn τ 0 0)  3 (andL hk)) allw_ok mf_Mo_count kw_963 ks_29 kw_961 ⟨rfl, rfl, Nat.le_of_ble_eq_true rfl, Nat.le_of_ble_eq_true rfl⟩ rfl rfl hl.1 (Nat.le_of_ble_eq_true rfl) d_Mo_variant_33 ⟨Nat.le_of_ble_eq_true rfl, Nat.le_of_ble_eq_true rfl⟩ (roK fun H locs hB => ?_)
    replace hk := andR hk
    refine lv_bipush (v := 10) hx hb d_Mo_variant_36 (by decide) ?_
    refine lv_icmp_ne (tgt := 43) hx hb d_Mo_variant_38 (by decide) (fun c_3 => ?_) (fun c_3 => ?_)
    · rw [if_neg c_3] at hR hk
      refine lv_aload_n hx hb d_Mo_variant_43 rfl (lv_at hl 0 rfl) ?_
      refine kV hC hB _ lkM_o rfl (c_Mo_begin (wn τ 0 0)  (andL hk)) allw_ok mf_Mo_begin kw_967 ks_30 kw_965 ⟨rfl, rfl, Nat.le_of_ble_eq_true rfl, Nat.le_of_ble_eq_true rfl⟩ rfl rfl hl.1 (Nat.le_of_ble_eq_true rfl) d_Mo_variant_44 ⟨Nat.le_of_ble_eq_true rfl, Nat.le_of_ble_eq_true rfl⟩ (roK fun H locs hB => ?_)
      replace hk := andR hk
      refine lv_aload_n hx hb d_Mo_variant_47 rfl (lv_at hl 0 rfl) ?_
      refine lv_iconst (v := 3) hx hb d_Mo_variant_48 (by decide) ?_
      refine kV hC hB _ lkM_o rfl (c_Mo_count (m_Mo_begin (wn τ 0 0))  3 (andL hk)) allw_ok mf_Mo_count kw_963 ks_29 kw_961 ⟨rfl, rfl, Nat.le_of_ble_eq_true rfl, Nat.le_of_ble_eq_true rfl⟩ rfl rfl hl.1 (Nat.le_of_ble_eq_true rfl) d_Mo_variant_49 ⟨Nat.le_of_ble_eq_true rfl, Nat.le_of_ble_eq_true rfl⟩ (roK fun H locs hB => ?_)
      replace hk := andR hk
      refine lv_istore_n (lv' := [(2, .int (m_Mo_count (m_Mo_begin (wn τ 0 0)) 3)), (0, .ref (G 4 0)), (1, .int x0)]) hx hb d_Mo_variant_52 rfl hl (by decide) rfl (fun ls hl => ?_)
      refine lv_aload_n hx hb d_Mo_variant_53 rfl (lv_at hl 1 rfl) ?_
      refine gt hC hB _ lkM_o rfl i_Mo 1 (by decide) rfl kw_892 rfl d_Mo_variant_54 ?_
      refine lv_sipush (v := 2672) hx hb d_Mo_variant_57 (by decide) ?_
      refine lv_iload_n hx hb d_Mo_variant_60 rfl (lv_at hl 0 rfl) ?_
      refine lv_iadd hx hb d_Mo_variant_61 ?_
      refine lv_iload_n hx hb d_Mo_variant_62 rfl (lv_at hl 2 rfl) ?_
      refine lv_i2l hx hb d_Mo_variant_63 rfl ?_
      refine as_l rfl hC hB _ 1 (lkM_l (by decide : 0 < 4)) rfl (of_eq_true (andL hk)) d_Mo_variant_64 (ws' := wsM G cI cL (wL (m_Mo_begin (wn τ 0 0)) 0 ((2672 + (m_Mo_count (m_Mo_begin (wn τ 0 0)) 3)).toNatClampNeg) x0.toInt64) rest) (setM_l (by decide : 0 < 4) _ _) (fun H locs hB => ?_)
      replace hk := andR hk
      refine lv_aload_n hx hb d_Mo_variant_65 rfl (lv_at hl 1 rfl) ?_
      refine gt hC hB _ lkM_o rfl i_Mo 1 (by decide) rfl kw_892 rfl d_Mo_variant_66 ?_
      refine lv_iconst (v := 3) hx hb d_Mo_variant_69 (by decide) ?_
      refine lv_dup2_11 hx hb d_Mo_variant_70 rfl rfl ?_
      refine va_lald hx hb hC.2.2.2.2.2.2.2.1.1 hB.1 _ 1 (lkM_l (by decide : 0 < 4)) rfl (of_eq_true (andL hk)) d_Mo_variant_71 ?_
      replace hk := andR hk
      refine lv_lconst (v := 1) hx hb d_Mo_variant_72 (by decide) ?_
      refine lv_ladd hx hb d_Mo_variant_73 ?_
      refine as_l rfl hC hB _ 1 (lkM_l (by decide : 0 < 4)) rfl (of_eq_true (andL hk)) d_Mo_variant_74 (ws' := wsM G cI cL (wL (wL (m_Mo_begin (wn τ 0 0)) 0 ((2672 + (m_Mo_count (m_Mo_begin (wn τ 0 0)) 3)).toNatClampNeg) x0.toInt64) 0 ((3 : Int32).toNatClampNeg) ((yL (wL (m_Mo_begin (wn τ 0 0)) 0 ((2672 + (m_Mo_count (m_Mo_begin (wn τ 0 0)) 3)).toNatClampNeg) x0.toInt64) 0 (3 : Int32).toNatClampNeg) + 1)) rest) (setM_l (by decide : 0 < 4) _ _) (fun H locs hB => ?_)
      replace hk := andR hk
      refine lv_aload_n hx hb d_Mo_variant_75 rfl (lv_at hl 1 rfl) ?_
      refine kV hC hB _ lkM_o rfl (c_Mo_done (wL (wL (m_Mo_begin (wn τ 0 0)) 0 ((2672 + (m_Mo_count (m_Mo_begin (wn τ 0 0)) 3)).toNatClampNeg) x0.toInt64) 0 ((3 : Int32).toNatClampNeg) ((yL (wL (m_Mo_begin (wn τ 0 0)) 0 ((2672 + (m_Mo_count (m_Mo_begin (wn τ 0 0)) 3)).toNatClampNeg) x0.toInt64) 0 (3 : Int32).toNatClampNeg) + 1))  (andL hk)) allw_ok mf_Mo_done kw_971 ks_31 kw_969 ⟨rfl, rfl, Nat.le_of_ble_eq_true rfl, Nat.le_of_ble_eq_true rfl⟩ rfl rfl hl.1 (Nat.le_of_ble_eq_true rfl) d_Mo_variant_76 ⟨Nat.le_of_ble_eq_true rfl, Nat.le_of_ble_eq_true rfl⟩ (roK fun H locs hB => ?_)
      replace hk := andR hk
      refine lv_iload_n hx hb d_Mo_variant_79 rfl (lv_at hl 0 rfl) ?_
      obtain ⟨rfl, rfl⟩ := Prod.mk.inj hR
      exact ri hC hB rfl d_Mo_variant_80
    · rw [if_pos c_3] at hR hk
      refine lv_iconst (v := (-1)) hx hb d_Mo_variant_41 (by decide) ?_
      obtain ⟨rfl, rfl⟩ := Prod.mk.inj hR
      exact ri hC hB rfl d_Mo_variant_42
  · rw [if_neg c_1] at hR hk
    refine lv_aload_n hx hb d_Mo_variant_6 rfl (lv_at hl 0 rfl) ?_
    refine lv_iload_n hx hb d_Mo_variant_7 rfl (lv_at hl 1 rfl) ?_
    refine kV hC hB _ lkM_o rfl (c_Mo_isVariant τ  x0 (andL hk)) allw_ok mf_Mo_isVariant kw_1099 ks_50 kw_1097 ⟨rfl, rfl, Nat.le_of_ble_eq_true rfl, Nat.le_of_ble_eq_true rfl⟩ rfl rfl hl.1 (Nat.le_of_ble_eq_true rfl) d_Mo_variant_8 ⟨Nat.le_of_ble_eq_true rfl, Nat.le_of_ble_eq_true rfl⟩ (roK fun H locs hB => ?_)
    replace hk := andR hk
    refine lv_if_eq (tgt := 18) hx hb d_Mo_variant_11 (by decide) (fun c_4 => ?_) (fun c_4 => ?_)
    · rw [if_pos c_4] at hR hk
      refine lv_iconst (v := 1) hx hb d_Mo_variant_18 (by decide) ?_
      refine pt (ty := .int) rfl hC hB _ lkM_o rfl i_Mo t_Mo t_Mo_ok n_Mo 0 (by decide) rfl rfl kw_891 (by decide +kernel) rfl rfl (Nat.le_of_ble_eq_true rfl) d_Mo_variant_19 (ws' := wsM G cI cL (wn τ 0 1) rest) setM_n0 (fun H locs hB => ?_)
      refine lv_aload_n hx hb d_Mo_variant_22 rfl (lv_at hl 0 rfl) ?_
      refine gt (v := .int 1) hC hB _ lkM_o rfl i_Mo 0 (by decide) rfl kw_891 rfl d_Mo_variant_23 ?_
      refine lv_if_eq (tgt := 31) hx hb d_Mo_variant_26 (by decide) (fun c_5 => absurd c_5 (by decide)) (fun c_5 => ?_)
      refine lv_iconst (v := 0) hx hb d_Mo_variant_29 (by decide) ?_
      obtain ⟨rfl, rfl⟩ := Prod.mk.inj hR
      exact ri hC hB rfl d_Mo_variant_30
    · rw [if_neg c_4] at hR hk
      refine lv_iconst (v := 0) hx hb d_Mo_variant_14 (by decide) ?_
      refine lv_goto (tgt := 19) hx hb d_Mo_variant_15 (by decide) ?_
      refine pt (ty := .int) rfl hC hB _ lkM_o rfl i_Mo t_Mo t_Mo_ok n_Mo 0 (by decide) rfl rfl kw_891 (by decide +kernel) rfl rfl (Nat.le_of_ble_eq_true rfl) d_Mo_variant_19 (ws' := wsM G cI cL (wn τ 0 0) rest) setM_n0 (fun H locs hB => ?_)
      refine lv_aload_n hx hb d_Mo_variant_22 rfl (lv_at hl 0 rfl) ?_
      refine gt (v := .int 0) hC hB _ lkM_o rfl i_Mo 0 (by decide) rfl kw_891 rfl d_Mo_variant_23 ?_
      refine lv_if_eq (tgt := 31) hx hb d_Mo_variant_26 (by decide) (fun c_6 => ?_) (fun c_6 => absurd c_6 (by decide))
      refine lv_aload_n hx hb d_Mo_variant_31 rfl (lv_at hl 0 rfl) ?_
      refine lv_iconst (v := 3) hx hb d_Mo_variant_32 (by decide) ?_
      refine kV hC hB _ lkM_o rfl (c_Mo_count (wn τ 0 0)  3 (andL hk)) allw_ok mf_Mo_count kw_963 ks_29 kw_961 ⟨rfl, rfl, Nat.le_of_ble_eq_true rfl, Nat.le_of_ble_eq_true rfl⟩ rfl rfl hl.1 (Nat.le_of_ble_eq_true rfl) d_Mo_variant_33 ⟨Nat.le_of_ble_eq_true rfl, Nat.le_of_ble_eq_true rfl⟩ (roK fun H locs hB => ?_)
      replace hk := andR hk
      refine lv_bipush (v := 10) hx hb d_Mo_variant_36 (by decide) ?_
      refine lv_icmp_ne (tgt := 43) hx hb d_Mo_variant_38 (by decide) (fun c_7 => ?_) (fun c_7 => ?_)
      · rw [if_neg c_7] at hR hk
        refine lv_aload_n hx hb d_Mo_variant_43 rfl (lv_at hl 0 rfl) ?_
        refine kV hC hB _ lkM_o rfl (c_Mo_begin (wn τ 0 0)  (andL hk)) allw_ok mf_Mo_begin kw_967 ks_30 kw_965 ⟨rfl, rfl, Nat.le_of_ble_eq_true rfl, Nat.le_of_ble_eq_true rfl⟩ rfl rfl hl.1 (Nat.le_of_ble_eq_true rfl) d_Mo_variant_44 ⟨Nat.le_of_ble_eq_true rfl, Nat.le_of_ble_eq_true rfl⟩ (roK fun H locs hB => ?_)
        replace hk := andR hk
        refine lv_aload_n hx hb d_Mo_variant_47 rfl (lv_at hl 0 rfl) ?_
        refine lv_iconst (v := 3) hx hb d_Mo_variant_48 (by decide) ?_
        refine kV hC hB _ lkM_o rfl (c_Mo_count (m_Mo_begin (wn τ 0 0))  3 (andL hk)) allw_ok mf_Mo_count kw_963 ks_29 kw_961 ⟨rfl, rfl, Nat.le_of_ble_eq_true rfl, Nat.le_of_ble_eq_true rfl⟩ rfl rfl hl.1 (Nat.le_of_ble_eq_true rfl) d_Mo_variant_49 ⟨Nat.le_of_ble_eq_true rfl, Nat.le_of_ble_eq_true rfl⟩ (roK fun H locs hB => ?_)
        replace hk := andR hk
        refine lv_istore_n (lv' := [(2, .int (m_Mo_count (m_Mo_begin (wn τ 0 0)) 3)), (0, .ref (G 4 0)), (1, .int x0)]) hx hb d_Mo_variant_52 rfl hl (by decide) rfl (fun ls hl => ?_)
        refine lv_aload_n hx hb d_Mo_variant_53 rfl (lv_at hl 1 rfl) ?_
        refine gt hC hB _ lkM_o rfl i_Mo 1 (by decide) rfl kw_892 rfl d_Mo_variant_54 ?_
        refine lv_sipush (v := 2672) hx hb d_Mo_variant_57 (by decide) ?_
        refine lv_iload_n hx hb d_Mo_variant_60 rfl (lv_at hl 0 rfl) ?_
        refine lv_iadd hx hb d_Mo_variant_61 ?_
        refine lv_iload_n hx hb d_Mo_variant_62 rfl (lv_at hl 2 rfl) ?_
        refine lv_i2l hx hb d_Mo_variant_63 rfl ?_
        refine as_l rfl hC hB _ 1 (lkM_l (by decide : 0 < 4)) rfl (of_eq_true (andL hk)) d_Mo_variant_64 (ws' := wsM G cI cL (wL (m_Mo_begin (wn τ 0 0)) 0 ((2672 + (m_Mo_count (m_Mo_begin (wn τ 0 0)) 3)).toNatClampNeg) x0.toInt64) rest) (setM_l (by decide : 0 < 4) _ _) (fun H locs hB => ?_)
        replace hk := andR hk
        refine lv_aload_n hx hb d_Mo_variant_65 rfl (lv_at hl 1 rfl) ?_
        refine gt hC hB _ lkM_o rfl i_Mo 1 (by decide) rfl kw_892 rfl d_Mo_variant_66 ?_
        refine lv_iconst (v := 3) hx hb d_Mo_variant_69 (by decide) ?_
        refine lv_dup2_11 hx hb d_Mo_variant_70 rfl rfl ?_
        refine va_lald hx hb hC.2.2.2.2.2.2.2.1.1 hB.1 _ 1 (lkM_l (by decide : 0 < 4)) rfl (of_eq_true (andL hk)) d_Mo_variant_71 ?_
        replace hk := andR hk
        refine lv_lconst (v := 1) hx hb d_Mo_variant_72 (by decide) ?_
        refine lv_ladd hx hb d_Mo_variant_73 ?_
        refine as_l rfl hC hB _ 1 (lkM_l (by decide : 0 < 4)) rfl (of_eq_true (andL hk)) d_Mo_variant_74 (ws' := wsM G cI cL (wL (wL (m_Mo_begin (wn τ 0 0)) 0 ((2672 + (m_Mo_count (m_Mo_begin (wn τ 0 0)) 3)).toNatClampNeg) x0.toInt64) 0 ((3 : Int32).toNatClampNeg) ((yL (wL (m_Mo_begin (wn τ 0 0)) 0 ((2672 + (m_Mo_count (m_Mo_begin (wn τ 0 0)) 3)).toNatClampNeg) x0.toInt64) 0 (3 : Int32).toNatClampNeg) + 1)) rest) (setM_l (by decide : 0 < 4) _ _) (fun H locs hB => ?_)
        replace hk := andR hk
        refine lv_aload_n hx hb d_Mo_variant_75 rfl (lv_at hl 1 rfl) ?_
        refine kV hC hB _ lkM_o rfl (c_Mo_done (wL (wL (m_Mo_begin (wn τ 0 0)) 0 ((2672 + (m_Mo_count (m_Mo_begin (wn τ 0 0)) 3)).toNatClampNeg) x0.toInt64) 0 ((3 : Int32).toNatClampNeg) ((yL (wL (m_Mo_begin (wn τ 0 0)) 0 ((2672 + (m_Mo_count (m_Mo_begin (wn τ 0 0)) 3)).toNatClampNeg) x0.toInt64) 0 (3 : Int32).toNatClampNeg) + 1))  (andL hk)) allw_ok mf_Mo_done kw_971 ks_31 kw_969 ⟨rfl, rfl, Nat.le_of_ble_eq_true rfl, Nat.le_of_ble_eq_true rfl⟩ rfl rfl hl.1 (Nat.le_of_ble_eq_true rfl) d_Mo_variant_76 ⟨Nat.le_of_ble_eq_true rfl, Nat.le_of_ble_eq_true rfl⟩ (roK fun H locs hB => ?_)
        replace hk := andR hk
        refine lv_iload_n hx hb d_Mo_variant_79 rfl (lv_at hl 0 rfl) ?_
        obtain ⟨rfl, rfl⟩ := Prod.mk.inj hR
        exact ri hC hB rfl d_Mo_variant_80
      · rw [if_pos c_7] at hR hk
        refine lv_iconst (v := (-1)) hx hb d_Mo_variant_41 (by decide) ?_
        obtain ⟨rfl, rfl⟩ := Prod.mk.inj hR
        exact ri hC hB rfl d_Mo_variant_42

set_option maxHeartbeats 400000 in
set_option maxRecDepth 100000 in
theorem w_Mo_pathOf_14 {p : Program} {e : Env} {s : State} {m : MethodId} {args : Array Value} {below : List Frame} {meth : Method} {c : Code} {RES : Int32 × SM}   (hC : cx D classes (tyL cI cL cQ) NWL ALLW N0 p s m args meth c b_Mo_pathOf 5 (some .int) R_Mo) :
    ∀ (n : Nat) (τ : SM) (v1 : Int32) (v2 : Int32) (v3 : Int32) (v4 : Int32), dnI n v4 → lp_Mo_pathOf_14 n τ  v1 v2 v3 v4 = RES → (kl_Mo_pathOf_14 n τ  v1 v2 v3 v4) = True → ∀ (H : Heap) (locs : List Loc), bd D classes N0 N0 (wsM G cI cL τ rest) s H locs → ∀ (ls : Array Slot), lv_has ls 5 [(0, .ref (G 4 0)), (1, .int v1), (2, .int v2), (3, .int v3), (4, .int v4)] → W p l e { frames := 0, cells := 0, slots := 0, locals := 0 } s m args below meth c H locs 0 0 (MQ below (qx D classes N0 N0 (some (.int RES.1)) (fun w => w = wsM G cI cL RES.2 rest)) args s 0 0 (ga N0)) (F0 m 14 ls []) := by
  obtain ⟨RV, RS⟩ := RES
  dsimp only
  have hx := hC.1
  have hb := hC.2.1
  intro n
  induction n with
  | zero =>
    intro τ v1 v2 v3 v4 hI
    exact absurd hI dn_zero
  | succ n ih =>
    intro τ v1 v2 v3 v4 hI hR hk H locs hB ls hl
    rw [lp_Mo_pathOf_14] at hR
    rw [kl_Mo_pathOf_14] at hk
    refine lv_iload hx hb d_Mo_pathOf_14 (lv_at hl 4 rfl) ?_
    refine lv_if_lt (tgt := 45) hx hb d_Mo_pathOf_16 (by decide) (fun c_1 => ?_) (fun c_1 => ?_)
    · rw [if_pos c_1] at hR hk
      refine lv_iload_n hx hb d_Mo_pathOf_45 rfl (lv_at hl 2 rfl) ?_
      obtain ⟨rfl, rfl⟩ := Prod.mk.inj hR
      exact ri hC hB rfl d_Mo_pathOf_46
    · rw [if_neg c_1] at hR hk
      refine lv_aload_n hx hb d_Mo_pathOf_19 rfl (lv_at hl 0 rfl) ?_
      refine gt hC hB _ lkM_o rfl i_Mo 13 (by decide) rfl kw_904 rfl d_Mo_pathOf_20 ?_
      refine lv_iload hx hb d_Mo_pathOf_23 (lv_at hl 4 rfl) ?_
      refine lv_aload_n hx hb d_Mo_pathOf_25 rfl (lv_at hl 0 rfl) ?_
      refine gt hC hB _ lkM_o rfl i_Mo 10 (by decide) rfl kw_901 rfl d_Mo_pathOf_26 ?_
      refine lv_iload_n hx hb d_Mo_pathOf_29 rfl (lv_at hl 3 rfl) ?_
      refine va_iald hx hb hC.2.2.2.2.2.2.2.1.1 hB.1 _ 0 (lkM_i (by decide : 1 < 7)) rfl (of_eq_true (andL hk)) d_Mo_pathOf_30 ?_
      replace hk := andR hk
      refine as_i rfl hC hB _ 0 (lkM_i (by decide : 4 < 7)) rfl (of_eq_true (andL hk)) d_Mo_pathOf_31 (ws' := wsM G cI cL (wI τ 4 v4.toNatClampNeg (yI τ 1 v3.toNatClampNeg)) rest) (setM_i (by decide : 4 < 7) _ _) (fun H locs hB => ?_)
      replace hk := andR hk
      refine lv_aload_n hx hb d_Mo_pathOf_32 rfl (lv_at hl 0 rfl) ?_
      refine gt hC hB _ lkM_o rfl i_Mo 11 (by decide) rfl kw_902 rfl d_Mo_pathOf_33 ?_
      refine lv_iload_n hx hb d_Mo_pathOf_36 rfl (lv_at hl 3 rfl) ?_
      refine va_iald hx hb hC.2.2.2.2.2.2.2.1.1 hB.1 _ 0 (lkM_i (by decide : 2 < 7)) rfl (of_eq_true (andL hk)) d_Mo_pathOf_37 ?_
      replace hk := andR hk
      refine lv_istore_n (lv' := [(3, .int (yI (wI τ 4 v4.toNatClampNeg (yI τ 1 v3.toNatClampNeg)) 2 v3.toNatClampNeg)), (0, .ref (G 4 0)), (1, .int v1), (2, .int v2), (4, .int v4)]) hx hb d_Mo_pathOf_38 rfl hl (by decide) rfl (fun ls hl => ?_)
      refine lv_iinc (v := (v4 + (-1))) (lv' := [(4, .int (v4 + (-1))), (3, .int (yI (wI τ 4 v4.toNatClampNeg (yI τ 1 v3.toNatClampNeg)) 2 v3.toNatClampNeg)), (0, .ref (G 4 0)), (1, .int v1), (2, .int v2)]) hx hb d_Mo_pathOf_39 hl (k := 4) rfl rfl (by decide) rfl (fun ls hl => ?_)
      refine lv_goto (tgt := 14) hx hb d_Mo_pathOf_42 (by decide) ?_
      exact ih (wI τ 4 v4.toNatClampNeg (yI τ 1 v3.toNatClampNeg)) v1 v2 (yI (wI τ 4 v4.toNatClampNeg (yI τ 1 v3.toNatClampNeg)) 2 v3.toNatClampNeg) (v4 + (-1)) (dn_step hI (by assumption)) hR hk _ _ hB ls (lv_sub hl [2, 3, 4, 1, 0] rfl)

set_option maxHeartbeats 400000 in
set_option maxRecDepth 100000 in
theorem c_Mo_pathOf  (τ : SM)  (x0 : Int32) (hk : (k_Mo_pathOf τ x0) = True) : CM l y_Mo_pathOf b_Mo_pathOf 5 (some .int) { frames := 0, cells := 0, slots := 0, locals := 0 } D (tyL cI cL cQ) N0 N0 [.ref (G 4 0), .int x0] (wsM G cI cL τ rest) (some (.int ((m_Mo_pathOf τ x0).1))) (fun w => w = wsM G cI cL ((m_Mo_pathOf τ x0).2) rest) 0 0 := by
  generalize hR : m_Mo_pathOf τ x0 = RES
  obtain ⟨RV, RS⟩ := RES
  dsimp only
  refine met_of (own := R_Mo) (by decide) rfl nwl_ok ?_
  intro p e s m below meth c hC hin hB
  have hx := hC.1
  have hb := hC.2.1
  have hl := lv_entry ([.ref (G 4 0), .int x0]) (n := 5) (Nat.le_of_ble_eq_true rfl)
  rw [lg_entry_eq]
  generalize (lg_sl ([.ref (G 4 0), .int x0]) ++ List.replicate (5 - (lg_sl ([.ref (G 4 0), .int x0])).length) Slot.unset).toArray = ls at hl ⊢
  have hl : lv_has ls 5 [(0, .ref (G 4 0)), (1, .int x0)] := hl
  rw [m_Mo_pathOf] at hR
  rw [k_Mo_pathOf] at hk
  refine lv_aload_n hx hb d_Mo_pathOf_0 rfl (lv_at hl 0 rfl) ?_
  refine gt hC hB _ lkM_o rfl i_Mo 12 (by decide) rfl kw_903 rfl d_Mo_pathOf_1 ?_
  refine lv_iload_n hx hb d_Mo_pathOf_4 rfl (lv_at hl 1 rfl) ?_
  refine va_iald hx hb hC.2.2.2.2.2.2.2.1.1 hB.1 _ 0 (lkM_i (by decide : 3 < 7)) rfl (of_eq_true (andL hk)) d_Mo_pathOf_5 ?_
  replace hk := andR hk
  refine lv_istore_n (lv' := [(2, .int (yI τ 3 x0.toNatClampNeg)), (0, .ref (G 4 0)), (1, .int x0)]) hx hb d_Mo_pathOf_6 rfl hl (by decide) rfl (fun ls hl => ?_)
  refine lv_iload_n hx hb d_Mo_pathOf_7 rfl (lv_at hl 2 rfl) ?_
  refine lv_istore_n (lv' := [(3, .int x0), (2, .int (yI τ 3 x0.toNatClampNeg)), (0, .ref (G 4 0)), (1, .int x0)]) hx hb d_Mo_pathOf_8 rfl hl (by decide) rfl (fun ls hl => ?_)
  refine lv_iload_n hx hb d_Mo_pathOf_9 rfl (lv_at hl 1 rfl) ?_
  refine lv_iconst (v := 1) hx hb d_Mo_pathOf_10 (by decide) ?_
  refine lv_isub hx hb d_Mo_pathOf_11 ?_
  refine lv_istore (lv' := [(4, .int ((yI τ 3 x0.toNatClampNeg) - 1)), (3, .int x0), (2, .int (yI τ 3 x0.toNatClampNeg)), (0, .ref (G 4 0)), (1, .int x0)]) hx hb d_Mo_pathOf_12 hl (by decide) rfl (fun ls hl => ?_)
  exact w_Mo_pathOf_14   hC (((yI τ 3 x0.toNatClampNeg) - 1).toNatClampNeg + 2) τ x0 (yI τ 3 x0.toNatClampNeg) x0 ((yI τ 3 x0.toNatClampNeg) - 1) (dn_init _) hR hk _ _ hB ls (lv_sub hl [3, 4, 2, 1, 0] rfl)
end SMW
