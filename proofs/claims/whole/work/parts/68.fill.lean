/-! THE PURE PART. fill and unevenness: both sides agree. -/
section FI
variable {σ : Hp} {D : Nat → Nat} {Y : Ly}
def ucB (Y : Ly) (p c r : Nat) : Bool := !(decide (lc Y (120 * p + 5 * r + c) = nI 0)) && !(decide (lc Y (120 * p + 5 * r + c) = nI 8))
def ucN (Y : Ly) (p c : Nat) : Nat := cntB (ucB Y p c) 24
theorem ucN_le (Y : Ly) (p c : Nat) : ucN Y p c ≤ 24 := cntB_le _ _
theorem s3_used (hP : PgW 56 σ Y) (N : Nat) (hN : 500 ≤ N) {p c : Nat} (hp : p ≤ 3) (hc : c < 5) : f3_usedCells N 56 (nI p) (nI c) σ = some (nI (ucN Y p c), σ) := by
  have main := lpc (fun _ _ _ => none) (f3_usedCells_B5 N 56 (nI p) (nI c) (fun x3_5 σL5 => some (x3_5, σL5))) (fun t j => t (nI (cntB (ucB Y p c) j)) (nI j) σ) (some (nI (ucN Y p c), σ)) 24 (by
    intro r
    show f3_usedCells_B5 _ _ _ _ _ _ _ _ _ = _
    unfold f3_usedCells_B5
    simp (disch := omega) only [q_lit, q_gt, q_bd, q_bxl, q_bxr, q_vib, q_cl, q_pos, q_lt, q_le, q_eq, q_neg, q_neg1, q_negz, q_negeq0, q_neg0le, q_rem, q_div, q_sub, q_if1, q_if0, q_okB0, q_okB1, q_dz, q_dn, q_nb, and_true, true_and, and_false, false_and, nI_add, pk_mul, if_true, if_false, ite_true, ite_false, Nat.add_zero, Nat.zero_add, Nat.reduceAdd]
    rfl) (by
    intro r j hj
    have hcl := cntB_le (ucB Y p c) j
    show f3_usedCells_B5 _ _ _ _ _ _ _ _ _ = r (nI (cntB (ucB Y p c) j + if ucB Y p c j then 1 else 0)) (nI (j + 1)) σ
    have hb : ucB Y p c j = (!(decide (lc Y (120 * p + 5 * j + c) = nI 0)) && !(decide (lc Y (120 * p + 5 * j + c) = nI 8))) := rfl
    unfold f3_usedCells_B5 f3_usedCells_J40 f5_cellIndex
    simp (disch := omega) only [q_lit, q_gt, q_bd, q_bxl, q_bxr, q_vib, q_cl, q_pos, q_lt, q_le, q_eq, q_neg, q_neg1, q_negz, q_negeq0, q_neg0le, q_rem, q_div, q_sub, q_if1, q_if0, q_okB0, q_okB1, q_dz, q_dn, q_nb, and_true, true_and, and_false, false_and, nI_add, pk_mul, if_true, if_false, ite_true, ite_false, Nat.add_zero, Nat.zero_add, Nat.reduceAdd, s3_kindAt hP]
    rw [hb, show p * 120 + j * 5 + c = 120 * p + 5 * j + c by omega]
    by_cases z : lc Y (120 * p + 5 * j + c) = nI 0
    · rw [if_pos z, decide_eq_true z]
      rfl
    · rw [if_neg z, decide_eq_false z]
      by_cases z2 : lc Y (120 * p + 5 * j + c) = nI 8
      · rw [if_pos z2, decide_eq_true z2]
        rfl
      · rw [if_neg z2, decide_eq_false z2]
        rfl) (i := 0) (n := N) (by omega) (by omega)
  exact main
theorem s6_used {P : Nat → Prop} (hR : RfR P σ Y) (N : Nat) (hN : 500 ≤ N) {p c : Nat} (hp : p ≤ 3) (hc : c < 5) : f6_filledIn N (nI p) (nI c) σ = some (nI (ucN Y p c), σ) := by
  have main := lpc (fun _ _ _ => none) (f6_filledIn_B5 N (nI p) (nI c) (fun x3_5 σL5 => some (x3_5, σL5))) (fun t j => t (nI (cntB (ucB Y p c) j)) (nI j) σ) (some (nI (ucN Y p c), σ)) 24 (by
    intro r
    show f6_filledIn_B5 _ _ _ _ _ _ _ _ = _
    unfold f6_filledIn_B5
    simp (disch := omega) only [q_lit, q_gt, q_bd, q_bxl, q_bxr, q_vib, q_cl, q_pos, q_lt, q_le, q_eq, q_neg, q_neg1, q_negz, q_negeq0, q_neg0le, q_rem, q_div, q_sub, q_if1, q_if0, q_okB0, q_okB1, q_dz, q_dn, q_nb, and_true, true_and, and_false, false_and, nI_add, pk_mul, if_true, if_false, ite_true, ite_false, Nat.add_zero, Nat.zero_add, Nat.reduceAdd]
    rfl) (by
    intro r j hj
    have hcl := cntB_le (ucB Y p c) j
    show f6_filledIn_B5 _ _ _ _ _ _ _ _ = r (nI (cntB (ucB Y p c) j + if ucB Y p c j then 1 else 0)) (nI (j + 1)) σ
    have hb : ucB Y p c j = (!(decide (lc Y (120 * p + 5 * j + c) = nI 0)) && !(decide (lc Y (120 * p + 5 * j + c) = nI 8))) := rfl
    unfold f6_filledIn_B5 f6_filledIn_J43 f6_filledIn_J44 f6_at
    simp (disch := omega) only [q_lit, q_gt, q_bd, q_bxl, q_bxr, q_vib, q_cl, q_pos, q_lt, q_le, q_eq, q_neg, q_neg1, q_negz, q_negeq0, q_neg0le, q_rem, q_div, q_sub, q_if1, q_if0, q_okB0, q_okB1, q_dz, q_dn, q_nb, and_true, true_and, and_false, false_and, nI_add, pk_mul, if_true, if_false, ite_true, ite_false, Nat.add_zero, Nat.zero_add, Nat.reduceAdd, hR.1]
    rw [hb, show (24 * p + j) * 5 + c = 120 * p + 5 * j + c by omega]
    by_cases z : lc Y (120 * p + 5 * j + c) = nI 0
    · rw [if_pos z, decide_eq_true z]
      rfl
    · rw [if_neg z, decide_eq_false z]
      by_cases z2 : lc Y (120 * p + 5 * j + c) = nI 8
      · rw [if_pos z2, decide_eq_true z2]
        rfl
      · rw [if_neg z2, decide_eq_false z2]
        rfl) (i := 0) (n := N) (by omega) (by omega)
  exact main
def flN (Y : Ly) (p : Nat) : Nat := sumF (fun c => ucN Y p c) 5
theorem flN_le (Y : Ly) (p : Nat) : flN Y p ≤ 120 := by
  have h0 := ucN_le Y p 0
  have h1 := ucN_le Y p 1
  have h2 := ucN_le Y p 2
  have h3 := ucN_le Y p 3
  have h4 := ucN_le Y p 4
  show 0 + ucN Y p 0 + ucN Y p 1 + ucN Y p 2 + ucN Y p 3 + ucN Y p 4 ≤ 120
  omega
/-- how full a page is; a column -/
def pfN (Y : Ly) (p : Nat) : UInt32 := FP.fdiv (FP.i2f (nI (flN Y p))) (1123024896 : UInt32)
theorem pf_np (Y : Ly) (p : Nat) : NP (pfN Y p) := fill120 (flN Y p) (by have := flN_le Y p; omega)
def cfN (Y : Ly) (p c : Nat) : UInt32 := FP.fdiv (FP.i2f (nI (ucN Y p c))) (1103101952 : UInt32)
theorem cf_nf (Y : Ly) (p c : Nat) : NF (cfN Y p c) := fill24 (ucN Y p c) (by have := ucN_le Y p c; omega)
theorem NF.np {x : UInt32} (h : NF x) : NP x := by
  unfold NF at h
  unfold NP
  omega
def smN (Y : Ly) (p : Nat) : Nat → UInt32
  | 0 => FP.fconst0
  | c + 1 => FP.fadd (smN Y p c) (cfN Y p c)
theorem sm_np (Y : Ly) (p : Nat) : ∀ c, NP (smN Y p c)
  | 0 => zero_np
  | c + 1 => fadd_np (sm_np Y p c) (cf_nf Y p c).np
def mnN (Y : Ly) (p : Nat) : UInt32 := FP.fdiv (smN Y p 5) (1084227584 : UInt32)
theorem mn_np (Y : Ly) (p : Nat) : NP (mnN Y p) := fdiv5_np (sm_np Y p 5)
def dfN (Y : Ly) (p c : Nat) : UInt32 := FP.fsub (cfN Y p c) (mnN Y p)
theorem df_nn (Y : Ly) (p c : Nat) : NN (dfN Y p c) := fsub_nn (cf_nf Y p c) (mn_np Y p)
def sqN (Y : Ly) (p : Nat) : Nat → UInt32
  | 0 => FP.fconst0
  | c + 1 => FP.fadd (sqN Y p c) (FP.fmul (dfN Y p c) (dfN Y p c))
theorem sq_np (Y : Ly) (p : Nat) : ∀ c, NP (sqN Y p c)
  | 0 => zero_np
  | c + 1 => fadd_np (sq_np Y p c) (fmul_np (df_nn Y p c))
def unN (Y : Ly) (p : Nat) : UInt64 := FP.ddiv (FP.f2d (sqN Y p 5)) (4617315517961601024 : UInt64)
theorem un_np (Y : Ly) (p : Nat) : NPD (unN Y p) := ddiv5_np (f2d_np (sq_np Y p 5))
theorem s5_needPage (N : Nat) (x : Int32) : f5_needPage N x σ = if inB x 0 3 then some (.inl (), σ) else some (.inr 1, σ) := by
  unfold f5_needPage
  rw [s5_isPage, q_bd]
  cases inB x 0 3
  · rfl
  · rfl
theorem s5_fillN (hP : PgW 56 σ Y) (N : Nat) (hN : 500 ≤ N) {p : Nat} (hp : p ≤ 3) : f5_fill N (nI p) σ = some (.inl (pfN Y p), σ) := by
  have e : inB (nI p) 0 3 = true := by rw [inB_nI (by omega) (by omega) (by omega)]; exact decide_eq_true (by omega)
  have main := lpc (fun _ _ _ => none) (f5_fill_B8 N (nI p) (fun x2_8 σL8 => gd (n32 (FP.fdiv (FP.i2f x2_8) (1123024896 : UInt32))) (some (.inl (FP.fdiv (FP.i2f x2_8) (1123024896 : UInt32)), σL8)))) (fun t c => t (nI (sumF (fun c => ucN Y p c) c)) (nI c) σ) (some (.inl (pfN Y p), σ)) 5 (by
    intro r
    show f5_fill_B8 _ _ _ _ _ _ _ = _
    unfold f5_fill_B8
    simp (disch := omega) only [q_lit, q_gt, q_bd, q_bxl, q_bxr, q_vib, q_cl, q_pos, q_lt, q_le, q_eq, q_neg, q_neg1, q_negz, q_negeq0, q_neg0le, q_rem, q_div, q_sub, q_if1, q_if0, q_okB0, q_okB1, q_dz, q_dn, q_nb, and_true, true_and, and_false, false_and, nI_add, pk_mul, if_true, if_false, ite_true, ite_false, Nat.add_zero, Nat.zero_add, Nat.reduceAdd]
    rw [show n32 (FP.fdiv (FP.i2f (nI (sumF (fun c => ucN Y p c) 5))) (1123024896 : UInt32)) = true from (pf_np Y p).ok]
    rfl) (by
    intro r c hc
    show f5_fill_B8 _ _ _ _ _ _ _ = r (nI (sumF (fun c => ucN Y p c) c + ucN Y p c)) (nI (c + 1)) σ
    unfold f5_fill_B8
    simp (disch := omega) only [q_lit, q_gt, q_bd, q_bxl, q_bxr, q_vib, q_cl, q_pos, q_lt, q_le, q_eq, q_neg, q_neg1, q_negz, q_negeq0, q_neg0le, q_rem, q_div, q_sub, q_if1, q_if0, q_okB0, q_okB1, q_dz, q_dn, q_nb, and_true, true_and, and_false, false_and, nI_add, pk_mul, if_true, if_false, ite_true, ite_false, Nat.add_zero, Nat.zero_add, Nat.reduceAdd, s3_used hP N hN hp hc]) (i := 0) (n := N) (by omega) (by omega)
  unfold f5_fill
  rw [s5_needPage, e, if_pos rfl]
  exact main
theorem s6_fillN {P : Nat → Prop} (hR : RfR P σ Y) (N : Nat) (hN : 500 ≤ N) {p : Nat} (hp : p ≤ 3) : f6_fill_L24 N (nI p) (fun x2_24 σL24 => gd (n32 (FP.fdiv (FP.i2f x2_24) (1123024896 : UInt32))) (some (FP.fdiv (FP.i2f x2_24) (1123024896 : UInt32), σL24))) N 0 0 σ = some (pfN Y p, σ) := by
  have main := lpc (fun _ _ _ => none) (f6_fill_B24 N (nI p) (fun x2_24 σL24 => gd (n32 (FP.fdiv (FP.i2f x2_24) (1123024896 : UInt32))) (some (FP.fdiv (FP.i2f x2_24) (1123024896 : UInt32), σL24)))) (fun t c => t (nI (sumF (fun c => ucN Y p c) c)) (nI c) σ) (some (pfN Y p, σ)) 5 (by
    intro r
    show f6_fill_B24 _ _ _ _ _ _ _ = _
    unfold f6_fill_B24
    simp (disch := omega) only [q_lit, q_gt, q_bd, q_bxl, q_bxr, q_vib, q_cl, q_pos, q_lt, q_le, q_eq, q_neg, q_neg1, q_negz, q_negeq0, q_neg0le, q_rem, q_div, q_sub, q_if1, q_if0, q_okB0, q_okB1, q_dz, q_dn, q_nb, and_true, true_and, and_false, false_and, nI_add, pk_mul, if_true, if_false, ite_true, ite_false, Nat.add_zero, Nat.zero_add, Nat.reduceAdd]
    rw [show n32 (FP.fdiv (FP.i2f (nI (sumF (fun c => ucN Y p c) 5))) (1123024896 : UInt32)) = true from (pf_np Y p).ok]
    rfl) (by
    intro r c hc
    show f6_fill_B24 _ _ _ _ _ _ _ = r (nI (sumF (fun c => ucN Y p c) c + ucN Y p c)) (nI (c + 1)) σ
    unfold f6_fill_B24
    simp (disch := omega) only [q_lit, q_gt, q_bd, q_bxl, q_bxr, q_vib, q_cl, q_pos, q_lt, q_le, q_eq, q_neg, q_neg1, q_negz, q_negeq0, q_neg0le, q_rem, q_div, q_sub, q_if1, q_if0, q_okB0, q_okB1, q_dz, q_dn, q_nb, and_true, true_and, and_false, false_and, nI_add, pk_mul, if_true, if_false, ite_true, ite_false, Nat.add_zero, Nat.zero_add, Nat.reduceAdd, s6_used hR N hN hp hc]) (i := 0) (n := N) (by omega) (by omega)
  exact main
theorem s5_colFill (hP : PgW 56 σ Y) (N : Nat) (hN : 500 ≤ N) {p c : Nat} (hp : p ≤ 3) (hc : c < 5) : f5_columnFill N (nI p) (nI c) σ = some (cfN Y p c, σ) := by
  unfold f5_columnFill
  rw [s3_used hP N hN hp hc, q_bd, show n32 (FP.fdiv (FP.i2f (nI (ucN Y p c))) (1103101952 : UInt32)) = true from (cf_nf Y p c).np.ok, q_gt]
  rfl
theorem s5_unevN (hP : PgW 56 σ Y) (N : Nat) (hN : 500 ≤ N) {p : Nat} (hp : p ≤ 3) : f5_unevenness N (nI p) σ = some (.inl (unN Y p), σ) := by
  have e : inB (nI p) 0 3 = true := by rw [inB_nI (by omega) (by omega) (by omega)]; exact decide_eq_true (by omega)
  have second : f5_unevenness_L39 N (nI p) (fun f4_39 σL39 => gd (n64 (FP.f2d f4_39)) (gd (n64 (FP.ddiv (FP.f2d f4_39) (4617315517961601024 : UInt64))) (some (.inl (FP.ddiv (FP.f2d f4_39) (4617315517961601024 : UInt64)), σL39)))) N (mnN Y p) FP.fconst0 0 σ = some (.inl (unN Y p), σ) := by
    have main := lpc (fun _ _ _ _ => none) (f5_unevenness_B39 N (nI p) (fun f4_39 σL39 => gd (n64 (FP.f2d f4_39)) (gd (n64 (FP.ddiv (FP.f2d f4_39) (4617315517961601024 : UInt64))) (some (.inl (FP.ddiv (FP.f2d f4_39) (4617315517961601024 : UInt64)), σL39))))) (fun t c => t (mnN Y p) (sqN Y p c) (nI c) σ) (some (.inl (unN Y p), σ)) 5 (by
      intro r
      show f5_unevenness_B39 _ _ _ _ _ _ _ _ = _
      unfold f5_unevenness_B39
      simp (disch := omega) only [q_lit, q_gt, q_bd, q_bxl, q_bxr, q_vib, q_cl, q_pos, q_lt, q_le, q_eq, q_neg, q_neg1, q_negz, q_negeq0, q_neg0le, q_rem, q_div, q_sub, q_if1, q_if0, q_okB0, q_okB1, q_dz, q_dn, q_nb, and_true, true_and, and_false, false_and, nI_add, pk_mul, if_true, if_false, ite_true, ite_false, Nat.add_zero, Nat.zero_add, Nat.reduceAdd]
      rw [show n64 (FP.f2d (sqN Y p 5)) = true from (f2d_np (sq_np Y p 5)).ok, q_gt, show n64 (FP.ddiv (FP.f2d (sqN Y p 5)) (4617315517961601024 : UInt64)) = true from (un_np Y p).ok]
      rfl) (by
      intro r c hc
      show f5_unevenness_B39 _ _ _ _ _ _ _ _ = r (mnN Y p) (FP.fadd (sqN Y p c) (FP.fmul (dfN Y p c) (dfN Y p c))) (nI (c + 1)) σ
      unfold f5_unevenness_B39
      simp (disch := omega) only [q_lit, q_gt, q_bd, q_bxl, q_bxr, q_vib, q_cl, q_pos, q_lt, q_le, q_eq, q_neg, q_neg1, q_negz, q_negeq0, q_neg0le, q_rem, q_div, q_sub, q_if1, q_if0, q_okB0, q_okB1, q_dz, q_dn, q_nb, and_true, true_and, and_false, false_and, nI_add, pk_mul, if_true, if_false, ite_true, ite_false, Nat.add_zero, Nat.zero_add, Nat.reduceAdd, s5_colFill hP N hN hp hc]
      rw [show n32 (FP.fsub (cfN Y p c) (mnN Y p)) = true from (df_nn Y p c).ok, q_gt, show n32 (FP.fmul (FP.fsub (cfN Y p c) (mnN Y p)) (FP.fsub (cfN Y p c) (mnN Y p))) = true from (fmul_np (df_nn Y p c)).ok, q_gt, show n32 (FP.fadd (sqN Y p c) (FP.fmul (FP.fsub (cfN Y p c) (mnN Y p)) (FP.fsub (cfN Y p c) (mnN Y p)))) = true from (sq_np Y p (c + 1)).ok, q_gt]
      rfl) (i := 0) (n := N) (by omega) (by omega)
    exact main
  have main := lpc (fun _ _ _ => none) (f5_unevenness_B8 N (nI p) (fun f2_8 σL8 => gd (n32 (FP.fdiv f2_8 (1084227584 : UInt32))) (f5_unevenness_L39 N (nI p) (fun f4_39 σL39 => gd (n64 (FP.f2d f4_39)) (gd (n64 (FP.ddiv (FP.f2d f4_39) (4617315517961601024 : UInt64))) (some (.inl (FP.ddiv (FP.f2d f4_39) (4617315517961601024 : UInt64)), σL39)))) N (FP.fdiv f2_8 (1084227584 : UInt32)) (FP.fconst0) 0 σL8))) (fun t c => t (smN Y p c) (nI c) σ) (some (.inl (unN Y p), σ)) 5 (by
    intro r
    show f5_unevenness_B8 _ _ _ _ _ _ _ = _
    unfold f5_unevenness_B8
    rw [if_pos (show (5 : Int32) ≤ nI 5 by decide)]
    show gd (n32 (FP.fdiv (smN Y p 5) (1084227584 : UInt32))) _ = _
    rw [show n32 (FP.fdiv (smN Y p 5) (1084227584 : UInt32)) = true from (mn_np Y p).ok, q_gt]
    exact second) (by
    intro r c hc
    show f5_unevenness_B8 _ _ _ _ _ _ _ = r (FP.fadd (smN Y p c) (cfN Y p c)) (nI (c + 1)) σ
    unfold f5_unevenness_B8
    simp (disch := omega) only [q_lit, q_gt, q_bd, q_bxl, q_bxr, q_vib, q_cl, q_pos, q_lt, q_le, q_eq, q_neg, q_neg1, q_negz, q_negeq0, q_neg0le, q_rem, q_div, q_sub, q_if1, q_if0, q_okB0, q_okB1, q_dz, q_dn, q_nb, and_true, true_and, and_false, false_and, nI_add, pk_mul, if_true, if_false, ite_true, ite_false, Nat.add_zero, Nat.zero_add, Nat.reduceAdd, s5_colFill hP N hN hp hc]
    rw [show n32 (FP.fadd (smN Y p c) (cfN Y p c)) = true from (sm_np Y p (c + 1)).ok, q_gt]) (i := 0) (n := N) (by omega) (by omega)
  unfold f5_unevenness
  rw [s5_needPage, e, if_pos rfl]
  exact main
theorem s6_unevN {P : Nat → Prop} (hR : RfR P σ Y) (N : Nat) (hN : 500 ≤ N) {p : Nat} (hp : p ≤ 3) : f6_unevenness_L24 N (nI p) (fun f2_24 σL24 => gd (n32 (FP.fdiv f2_24 (1084227584 : UInt32))) (f6_unevenness_L59 N (nI p) (fun f4_59 σL59 => gd (n64 (FP.f2d f4_59)) (gd (n64 (FP.ddiv (FP.f2d f4_59) (4617315517961601024 : UInt64))) (some (FP.ddiv (FP.f2d f4_59) (4617315517961601024 : UInt64), σL59)))) N (FP.fdiv f2_24 (1084227584 : UInt32)) (FP.fconst0) 0 σL24)) N (FP.fconst0) 0 σ = some (unN Y p, σ) := by
  have second : f6_unevenness_L59 N (nI p) (fun f4_59 σL59 => gd (n64 (FP.f2d f4_59)) (gd (n64 (FP.ddiv (FP.f2d f4_59) (4617315517961601024 : UInt64))) (some (FP.ddiv (FP.f2d f4_59) (4617315517961601024 : UInt64), σL59)))) N (mnN Y p) FP.fconst0 0 σ = some (unN Y p, σ) := by
    have main := lpc (fun _ _ _ _ => none) (f6_unevenness_B59 N (nI p) (fun f4_59 σL59 => gd (n64 (FP.f2d f4_59)) (gd (n64 (FP.ddiv (FP.f2d f4_59) (4617315517961601024 : UInt64))) (some (FP.ddiv (FP.f2d f4_59) (4617315517961601024 : UInt64), σL59))))) (fun t c => t (mnN Y p) (sqN Y p c) (nI c) σ) (some (unN Y p, σ)) 5 (by
      intro r
      show f6_unevenness_B59 _ _ _ _ _ _ _ _ = _
      unfold f6_unevenness_B59
      simp (disch := omega) only [q_lit, q_gt, q_bd, q_bxl, q_bxr, q_vib, q_cl, q_pos, q_lt, q_le, q_eq, q_neg, q_neg1, q_negz, q_negeq0, q_neg0le, q_rem, q_div, q_sub, q_if1, q_if0, q_okB0, q_okB1, q_dz, q_dn, q_nb, and_true, true_and, and_false, false_and, nI_add, pk_mul, if_true, if_false, ite_true, ite_false, Nat.add_zero, Nat.zero_add, Nat.reduceAdd]
      rw [show n64 (FP.f2d (sqN Y p 5)) = true from (f2d_np (sq_np Y p 5)).ok, q_gt, show n64 (FP.ddiv (FP.f2d (sqN Y p 5)) (4617315517961601024 : UInt64)) = true from (un_np Y p).ok]
      rfl) (by
      intro r c hc
      show f6_unevenness_B59 _ _ _ _ _ _ _ _ = r (mnN Y p) (FP.fadd (sqN Y p c) (FP.fmul (dfN Y p c) (dfN Y p c))) (nI (c + 1)) σ
      unfold f6_unevenness_B59
      simp (disch := omega) only [q_lit, q_gt, q_bd, q_bxl, q_bxr, q_vib, q_cl, q_pos, q_lt, q_le, q_eq, q_neg, q_neg1, q_negz, q_negeq0, q_neg0le, q_rem, q_div, q_sub, q_if1, q_if0, q_okB0, q_okB1, q_dz, q_dn, q_nb, and_true, true_and, and_false, false_and, nI_add, pk_mul, if_true, if_false, ite_true, ite_false, Nat.add_zero, Nat.zero_add, Nat.reduceAdd, s6_used hR N hN hp hc]
      rw [show FP.fdiv (FP.i2f (nI (ucN Y p c))) (1103101952 : UInt32) = cfN Y p c from rfl]
      rw [(cf_nf Y p c).np.ok, q_gt, show n32 (FP.fsub (cfN Y p c) (mnN Y p)) = true from (df_nn Y p c).ok, q_gt, show n32 (FP.fmul (FP.fsub (cfN Y p c) (mnN Y p)) (FP.fsub (cfN Y p c) (mnN Y p))) = true from (fmul_np (df_nn Y p c)).ok, q_gt, show n32 (FP.fadd (sqN Y p c) (FP.fmul (FP.fsub (cfN Y p c) (mnN Y p)) (FP.fsub (cfN Y p c) (mnN Y p)))) = true from (sq_np Y p (c + 1)).ok, q_gt]
      rfl) (i := 0) (n := N) (by omega) (by omega)
    exact main
  have main := lpc (fun _ _ _ => none) (f6_unevenness_B24 N (nI p) (fun f2_24 σL24 => gd (n32 (FP.fdiv f2_24 (1084227584 : UInt32))) (f6_unevenness_L59 N (nI p) (fun f4_59 σL59 => gd (n64 (FP.f2d f4_59)) (gd (n64 (FP.ddiv (FP.f2d f4_59) (4617315517961601024 : UInt64))) (some (FP.ddiv (FP.f2d f4_59) (4617315517961601024 : UInt64), σL59)))) N (FP.fdiv f2_24 (1084227584 : UInt32)) (FP.fconst0) 0 σL24))) (fun t c => t (smN Y p c) (nI c) σ) (some (unN Y p, σ)) 5 (by
    intro r
    show f6_unevenness_B24 _ _ _ _ _ _ _ = _
    unfold f6_unevenness_B24
    rw [if_pos (show (5 : Int32) ≤ nI 5 by decide)]
    show gd (n32 (FP.fdiv (smN Y p 5) (1084227584 : UInt32))) _ = _
    rw [show n32 (FP.fdiv (smN Y p 5) (1084227584 : UInt32)) = true from (mn_np Y p).ok, q_gt]
    exact second) (by
    intro r c hc
    show f6_unevenness_B24 _ _ _ _ _ _ _ = r (FP.fadd (smN Y p c) (cfN Y p c)) (nI (c + 1)) σ
    unfold f6_unevenness_B24
    simp (disch := omega) only [q_lit, q_gt, q_bd, q_bxl, q_bxr, q_vib, q_cl, q_pos, q_lt, q_le, q_eq, q_neg, q_neg1, q_negz, q_negeq0, q_neg0le, q_rem, q_div, q_sub, q_if1, q_if0, q_okB0, q_okB1, q_dz, q_dn, q_nb, and_true, true_and, and_false, false_and, nI_add, pk_mul, if_true, if_false, ite_true, ite_false, Nat.add_zero, Nat.zero_add, Nat.reduceAdd, s6_used hR N hN hp hc]
    rw [show FP.fdiv (FP.i2f (nI (ucN Y p c))) (1103101952 : UInt32) = cfN Y p c from rfl]
    rw [(cf_nf Y p c).np.ok, q_gt, show n32 (FP.fadd (smN Y p c) (cfN Y p c)) = true from (sm_np Y p (c + 1)).ok, q_gt]) (i := 0) (n := N) (by omega) (by omega)
  exact main
/-- both sides agree on a call that answers with a float or a double -/
def AgrF {β : Type} (A : Hp → Option (Int32 × Hp)) (B : Hp → Option (β × Hp)) (w : β → UInt64) (σ : Hp) : Prop := ∃ f σ1 r σ2, f < 10 ∧ A σ = some (nI f, σ1) ∧ B σ1 = some (r, σ2) ∧ σ2 84 0 = nI f ∧ (f = 0 → mk64 (σ2 101 0) (σ2 101 1) = w r ∧ NPD (w r)) ∧ Inv σ2
theorem agrF {β : Type} {σ : Hp} (hI : Inv σ) (N : Nat) (hN : 500 ≤ N) (x1 : Int32) (A : Hp → Option (Int32 × Hp)) (B : Hp → Option (β × Hp)) (w : β → UInt64) (f : Ly → Nat → β) (z : β) (hw : ∀ Y p, NPD (w (f Y p)))
    (hA1 : inB x1 0 3 = false → A σ = some (nI 1, σ)) (hA0 : ∀ Y, PgW 56 σ Y → ∀ p, p ≤ 3 → x1 = nI p → A σ = some (nI 0, sr σ 101 (dw (σ 101) (w (f Y p)))))
    (hB1 : ∀ (ρ τ : Hp), f6_asks N ρ = some ((), τ) → inB x1 0 3 = false → B ρ = some (z, st τ 84 0 (nI 1))) (hB0 : ∀ (ρ τ : Hp) (P : Nat → Prop) (Y : Ly), f6_asks N ρ = some ((), τ) → RfR P τ Y → ∀ p, p ≤ 3 → x1 = nI p → B ρ = some (f Y p, τ)) : AgrF A B w σ := by
  obtain ⟨D, ⟨h1, h2, h3⟩, ⟨Y0, y1, y2, y3, y4⟩, h5, h7⟩ := id hI
  cases e : inB x1 0 3
  · obtain ⟨τ, t1, t2, t3, t4, t5⟩ := asks_ok h1 N hN h3 Y0 y1
    refine ⟨1, σ, z, st τ 84 0 (nI 1), by omega, hA1 e, hB1 σ τ t1 e, st_same _ _ _ _, fun q => by omega, inv_keep2 hI (fun k hk => by rw [st_row _ _ _ _ (by omega)]; exact t4 k (by omega)) (fun i i1 i2 => by rw [st_ne _ _ _ _ (Or.inr i1)]; exact t5 i i1 i2)⟩
  · obtain ⟨p, -, p2, rfl⟩ := inB_some e (by decide) (by decide)
    have hs : ∀ k, k ≠ 101 → sr σ 101 (dw (σ 101) (w (f (layN D 99 Y0 (nS D)) p))) k = σ k := fun k hk => if_neg hk
    obtain ⟨τ, t1, t2, t3, t4, t5⟩ := asks_ok (σ := sr σ 101 (dw (σ 101) (w (f (layN D 99 Y0 (nS D)) p)))) h1 N hN (h3.congr (hs 85 (by omega))) Y0 y1
    have e101 : τ 101 = dw (σ 101) (w (f (layN D 99 Y0 (nS D)) p)) := by
      rw [t4 101 (by omega)]
      exact if_pos rfl
    refine ⟨0, _, f (layN D 99 Y0 (nS D)) p, τ, by omega, hA0 _ y2 p p2 rfl, hB0 _ τ _ _ t1 t2.2.1 p p2 rfl, t3, fun _ => ⟨?_, hw _ _⟩, inv_keep2 hI (fun k hk => by rw [t4 k (by omega), hs k (by omega)]) (fun i i1 i2 => by rw [t5 i i1 i2, hs 84 (by omega)])⟩
    rw [e101, dw_0, dw_1, mk_lohi]
theorem case_fill (hI : Inv σ) (N : Nat) (hN : 500 ≤ N) (x1 : Int32) : AgrF (fL_fill N x1) (f6_fill N x1) FP.f2d σ := by
  refine agrF hI N hN x1 _ _ FP.f2d pfN (FP.i2f 0) (fun Y p => f2d_np (pf_np Y p)) (fun e => ?_) (fun Y hP p hp hx => ?_) (fun ρ τ t e => ?_) (fun ρ τ P Y t hR p hp hx => ?_)
  · unfold fL_fill f5_fill
    rw [s5_needPage, e]
    rfl
  · subst hx
    unfold fL_fill
    rw [s5_fillN hP N hN hp]
    show gd (n64 (FP.f2d (pfN Y p))) _ = _
    rw [(f2d_np (pf_np Y p)).ok]
    rfl
  · unfold f6_fill
    rw [t, q_bd, show f6_in N x1 0 3 τ = some (nI (b2 (inB x1 0 3)), τ) from s6_in N x1 0 3, q_bd, e]
    rfl
  · subst hx
    have e : inB (nI p) 0 3 = true := by rw [inB_nI (by omega) (by omega) (by omega)]; exact decide_eq_true (by omega)
    unfold f6_fill
    rw [t, q_bd, show f6_in N (nI p) 0 3 τ = some (nI (b2 (inB (nI p) 0 3)), τ) from s6_in N (nI p) 0 3, q_bd, e, if_neg (show ¬ nI (b2 true) = 0 by decide)]
    exact s6_fillN hR N hN hp
theorem case_unevenness (hI : Inv σ) (N : Nat) (hN : 500 ≤ N) (x1 : Int32) : AgrF (fL_unevenness N x1) (f6_unevenness N x1) (fun r => r) σ := by
  refine agrF hI N hN x1 _ _ (fun r => r) unN (FP.i2d 0) (fun Y p => un_np Y p) (fun e => ?_) (fun Y hP p hp hx => ?_) (fun ρ τ t e => ?_) (fun ρ τ P Y t hR p hp hx => ?_)
  · unfold fL_unevenness f5_unevenness
    rw [s5_needPage, e]
    rfl
  · subst hx
    unfold fL_unevenness
    rw [s5_unevN hP N hN hp]
    rfl
  · unfold f6_unevenness
    rw [t, q_bd, show f6_in N x1 0 3 τ = some (nI (b2 (inB x1 0 3)), τ) from s6_in N x1 0 3, q_bd, e]
    rfl
  · subst hx
    have e : inB (nI p) 0 3 = true := by rw [inB_nI (by omega) (by omega) (by omega)]; exact decide_eq_true (by omega)
    unfold f6_unevenness
    rw [t, q_bd, show f6_in N (nI p) 0 3 τ = some (nI (b2 (inB (nI p) 0 3)), τ) from s6_in N (nI p) 0 3, q_bd, e, if_neg (show ¬ nI (b2 true) = 0 by decide)]
    exact s6_unevN hR N hN hp
end FI
