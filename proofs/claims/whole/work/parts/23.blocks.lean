/-! THE PURE PART. The first free block of a page, on both sides. -/
def om {α : Type} (a : Option Nat) (e : α) (f : Nat → α) : α := match a with | none => e | some x => f x
def fsN (q : Nat → Option Nat) : Nat → Nat → Option Nat
  | 0, _ => none
  | n + 1, i => om (q i) (fsN q n (i + 1)) some
theorem om_om {α : Type} (a : Option Nat) (b : Option Nat) (e : α) (f : Nat → α) : om (om a b some) e f = om a (om b e f) f := by
  cases a
  · rfl
  · rfl
theorem fsN_s (q : Nat → Option Nat) (n i : Nat) : fsN q (n + 1) i = om (q i) (fsN q n (i + 1)) some := rfl
def bkC (c : Nat → Int32) (p w h r k : Nat) : Option Nat := if h ≤ frn c w (24 - r) (120 * p + 5 * r + k) then some (5 * r + k) else none
def bkR (c : Nat → Int32) (p w h r : Nat) : Option Nat := fsN (bkC c p w h r) (6 - w) 0
/-- the first free block of w columns and h rows on page p: five times its row and its column -/
def bk (c : Nat → Int32) (p w h : Nat) : Option Nat := fsN (bkR c p w h) (25 - h) 0
theorem s3_fbPage (N g p w h : Nat) (σ : Hp) (hN : 500 ≤ N) (hp : p ≤ 3) (hw : 1 ≤ w) (hw2 : w ≤ 5) (hh : h ≤ 24) (hh1 : 1 ≤ h) (x1 x2 : Int32) (K3 : Hp → Option (Int32 × Hp)) (r3 : Int32 → Hp → Option (Int32 × Hp)) (K12 : Hp → Option (Int32 × Hp)) : f3_findBlock_L12 N g x1 x2 (nI w) (nI h) K3 r3 (nI p) K12 N (nI 0) σ = om (bk (σ (g + 1)) p w h) (K12 σ) (fun a => some (nI (120 * p + a), σ)) := by
  have main := lpg (fun _ _ => none) (f3_findBlock_B12 N g x1 x2 (nI w) (nI h) K3 r3 (nI p) K12) (fun t r => t (nI r) σ) (fun r => om (fsN (bkR (σ (g + 1)) p w h) (25 - h - r) r) (K12 σ) (fun a => some (nI (120 * p + a), σ))) (25 - h) (by
    intro r'
    show f3_findBlock_B12 _ _ _ _ _ _ _ _ _ _ _ _ _ = _
    unfold f3_findBlock_B12
    simp (disch := omega) only [q_lit, q_gt, q_bd, q_bxl, q_bxr, q_vib, q_cl, q_pos, q_lt, q_le, q_eq, q_neg, q_neg1, q_negz, q_negeq0, q_neg0le, q_rem, q_div, q_sub, q_if1, q_if0, q_okB0, q_okB1, q_dz, q_dn, q_nb, and_true, true_and, and_false, false_and, nI_add, pk_mul, if_true, if_false, ite_true, ite_false, Nat.add_zero, Nat.zero_add, Nat.reduceAdd]
    rw [show 25 - h - (25 - h) = 0 by omega]
    rfl) (by
    intro r1 r hr hnext
    replace hnext : r1 (nI (r + 1)) σ = _ := hnext
    show f3_findBlock_B12 _ _ _ _ _ _ _ _ _ _ _ _ _ = _
    unfold f3_findBlock_B12
    simp (disch := omega) only [q_lit, q_gt, q_bd, q_bxl, q_bxr, q_vib, q_cl, q_pos, q_lt, q_le, q_eq, q_neg, q_neg1, q_negz, q_negeq0, q_neg0le, q_rem, q_div, q_sub, q_if1, q_if0, q_okB0, q_okB1, q_dz, q_dn, q_nb, and_true, true_and, and_false, false_and, nI_add, pk_mul, if_true, if_false, ite_true, ite_false, Nat.add_zero, Nat.zero_add, Nat.reduceAdd]
    have inner := lpg (fun _ _ => none) (f3_findBlock_B25 N g x1 x2 (nI w) (nI h) K3 r3 (nI p) K12 r1 (nI r) (fun σL25 => r1 (nI (r + 1)) σL25)) (fun t k => t (nI k) σ) (fun k => om (fsN (bkC (σ (g + 1)) p w h r) (6 - w - k) k) (r1 (nI (r + 1)) σ) (fun a => some (nI (120 * p + a), σ))) (6 - w) (by
      intro r'
      show f3_findBlock_B25 _ _ _ _ _ _ _ _ _ _ _ _ _ _ _ _ = _
      unfold f3_findBlock_B25
      simp (disch := omega) only [q_lit, q_gt, q_bd, q_bxl, q_bxr, q_vib, q_cl, q_pos, q_lt, q_le, q_eq, q_neg, q_neg1, q_negz, q_negeq0, q_neg0le, q_rem, q_div, q_sub, q_if1, q_if0, q_okB0, q_okB1, q_dz, q_dn, q_nb, and_true, true_and, and_false, false_and, nI_add, pk_mul, if_true, if_false, ite_true, ite_false, Nat.add_zero, Nat.zero_add, Nat.reduceAdd]
      rw [show 6 - w - (6 - w) = 0 by omega]
      rfl) (by
      intro r' k hk hn
      replace hn : r' (nI (k + 1)) σ = _ := hn
      show f3_findBlock_B25 _ _ _ _ _ _ _ _ _ _ _ _ _ _ _ _ = _
      unfold f3_findBlock_B25 f5_cellIndex
      simp (disch := omega) only [q_lit, q_gt, q_bd, q_bxl, q_bxr, q_vib, q_cl, q_pos, q_lt, q_le, q_eq, q_neg, q_neg1, q_negz, q_negeq0, q_neg0le, q_rem, q_div, q_sub, q_if1, q_if0, q_okB0, q_okB1, q_dz, q_dn, q_nb, and_true, true_and, and_false, false_and, nI_add, pk_mul, if_true, if_false, ite_true, ite_false, Nat.add_zero, Nat.zero_add, Nat.reduceAdd]
      have hf := frn_le (σ (g + 1)) w (24 - r) (120 * p + 5 * r + k)
      rw [show p * 120 + r * 5 + k = 120 * p + 5 * r + k by omega]
      simp (disch := omega) only [q_lit, q_gt, q_bd, q_bxl, q_bxr, q_vib, q_cl, q_pos, q_lt, q_le, q_eq, q_neg, q_neg1, q_negz, q_negeq0, q_neg0le, q_rem, q_div, q_sub, q_if1, q_if0, q_okB0, q_okB1, q_dz, q_dn, q_nb, and_true, true_and, and_false, false_and, nI_add, pk_mul, if_true, if_false, ite_true, ite_false, Nat.add_zero, Nat.zero_add, Nat.reduceAdd, s3_freeRows N g p r k w (120 * p + 5 * r + k) σ hN hp (by omega) (by omega) hw rfl]
      rw [show 6 - w - k = 6 - w - (k + 1) + 1 by omega, fsN_s, om_om, ← hn]
      unfold bkC
      by_cases z : h ≤ frn (σ (g + 1)) w (24 - r) (120 * p + 5 * r + k)
      · rw [if_pos z, if_neg (by omega)]
        show _ = some (nI (120 * p + (5 * r + k)), σ)
        rw [Nat.add_assoc]
      · rw [if_neg z, if_pos (by omega)]
        rfl) (6 - w) 0 N (by omega) (by omega)
    replace inner : f3_findBlock_L25 N g x1 x2 (nI w) (nI h) K3 r3 (nI p) K12 r1 (nI r) (fun σL25 => r1 (nI (r + 1)) σL25) N (nI 0) σ = _ := inner
    rw [inner, hnext, show 25 - h - r = 25 - h - (r + 1) + 1 by omega, fsN_s, om_om, Nat.sub_zero]
    rfl) (25 - h) 0 N (by omega) (by omega)
  exact main
theorem s6_isFree (N p c r w h i : Nat) (σ : Hp) (hN : 500 ≤ N) (hp : p ≤ 3) (hc : c + w ≤ 5) (hr : r ≤ 24) (hh : h ≤ 60) (e : i = 120 * p + 5 * r + c) : f6_isFree N (nI p) (nI c) (nI r) (nI w) (nI h) σ = some (nI (if h ≤ frn (σ 89) w (24 - r) i then 1 else 0), σ) := by
  unfold f6_isFree
  simp (disch := omega) only [q_lit, q_gt, q_bd, q_bxl, q_bxr, q_vib, q_cl, q_pos, q_lt, q_le, q_eq, q_neg, q_neg1, q_negz, q_negeq0, q_neg0le, q_rem, q_div, q_sub, q_if1, q_if0, q_okB0, q_okB1, q_dz, q_dn, q_nb, and_true, true_and, and_false, false_and, nI_add, pk_mul, if_true, if_false, ite_true, ite_false, Nat.add_zero, Nat.zero_add, Nat.reduceAdd]
  by_cases hrh : r + h ≤ 24
  · rw [if_pos hrh]
    have main := lpg (fun _ _ => none) (f6_isFree_B22 N (nI p) (nI c) (nI r) (nI w) (nI h) (fun σL22 => some (nI 1, σL22))) (fun t j => t (nI (r + j)) σ) (fun j => some (nI (if ∀ q, q < h - j → rwB (σ 89) (i + (j + q) * 5) w = true then 1 else 0), σ)) h (by
      intro r'
      show f6_isFree_B22 _ _ _ _ _ _ _ _ _ _ = _
      unfold f6_isFree_B22
      simp (disch := omega) only [q_lit, q_gt, q_bd, q_bxl, q_bxr, q_vib, q_cl, q_pos, q_lt, q_le, q_eq, q_neg, q_neg1, q_negz, q_negeq0, q_neg0le, q_rem, q_div, q_sub, q_if1, q_if0, q_okB0, q_okB1, q_dz, q_dn, q_nb, and_true, true_and, and_false, false_and, nI_add, pk_mul, if_true, if_false, ite_true, ite_false, Nat.add_zero, Nat.zero_add, Nat.reduceAdd]) (by
      intro r1 j hj hnext
      replace hnext : r1 (nI (r + j + 1)) σ = some (nI (if ∀ q, q < h - (j + 1) → rwB (σ 89) (i + (j + 1 + q) * 5) w = true then 1 else 0), σ) := hnext
      show f6_isFree_B22 _ _ _ _ _ _ _ _ _ _ = _
      unfold f6_isFree_B22
      simp (disch := omega) only [q_lit, q_gt, q_bd, q_bxl, q_bxr, q_vib, q_cl, q_pos, q_lt, q_le, q_eq, q_neg, q_neg1, q_negz, q_negeq0, q_neg0le, q_rem, q_div, q_sub, q_if1, q_if0, q_okB0, q_okB1, q_dz, q_dn, q_nb, and_true, true_and, and_false, false_and, nI_add, pk_mul, if_true, if_false, ite_true, ite_false, Nat.add_zero, Nat.zero_add, Nat.reduceAdd]
      have inner := lpg (fun _ _ => none) (f6_isFree_B34 N (nI p) (nI c) (nI r) (nI w) (nI h) (fun σL22 => some (nI 1, σL22)) r1 (nI (r + j)) (fun σL34 => r1 (nI (r + j + 1)) σL34)) (fun t q => t (nI (c + q)) σ) (fun q => if ∀ k, k < w - q → σ 89 (i + j * 5 + (q + k)) = nI 0 then r1 (nI (r + j + 1)) σ else some (nI 0, σ)) w (by
        intro r'
        show f6_isFree_B34 _ _ _ _ _ _ _ _ _ _ _ _ _ = _
        unfold f6_isFree_B34
        simp (disch := omega) only [q_lit, q_gt, q_bd, q_bxl, q_bxr, q_vib, q_cl, q_pos, q_lt, q_le, q_eq, q_neg, q_neg1, q_negz, q_negeq0, q_neg0le, q_rem, q_div, q_sub, q_if1, q_if0, q_okB0, q_okB1, q_dz, q_dn, q_nb, and_true, true_and, and_false, false_and, nI_add, pk_mul, if_true, if_false, ite_true, ite_false, Nat.add_zero, Nat.zero_add, Nat.reduceAdd]) (by
        intro r' q hq hn
        replace hn : r' (nI (c + q + 1)) σ = if ∀ k, k < w - (q + 1) → σ 89 (i + j * 5 + (q + 1 + k)) = nI 0 then r1 (nI (r + j + 1)) σ else some (nI 0, σ) := hn
        show f6_isFree_B34 _ _ _ _ _ _ _ _ _ _ _ _ _ = _
        unfold f6_isFree_B34 f6_at
        simp (disch := omega) only [q_lit, q_gt, q_bd, q_bxl, q_bxr, q_vib, q_cl, q_pos, q_lt, q_le, q_eq, q_neg, q_neg1, q_negz, q_negeq0, q_neg0le, q_rem, q_div, q_sub, q_if1, q_if0, q_okB0, q_okB1, q_dz, q_dn, q_nb, and_true, true_and, and_false, false_and, nI_add, pk_mul, if_true, if_false, ite_true, ite_false, Nat.add_zero, Nat.zero_add, Nat.reduceAdd]
        rw [show (24 * p + (r + j)) * 5 + (c + q) = i + j * 5 + q by omega]
        by_cases z : σ 89 (i + j * 5 + q) = nI 0
        · rw [if_pos z, hn]
          refine q_ifc ?_
          constructor
          · intro a k hk
            rcases k with _ | k
            · exact z
            · have := a k (by omega)
              rw [show q + (k + 1) = q + 1 + k by omega]
              exact this
          · intro a k hk
            have := a (k + 1) (by omega)
            rw [show q + (k + 1) = q + 1 + k by omega] at this
            exact this
        · rw [if_neg z, if_neg (fun a => z (a 0 (by omega)))]) w 0 N (by omega) (by omega)
      replace inner : f6_isFree_L34 N (nI p) (nI c) (nI r) (nI w) (nI h) (fun σL22 => some (nI 1, σL22)) r1 (nI (r + j)) (fun σL34 => r1 (nI (r + j + 1)) σL34) N (nI c) σ = _ := inner
      have e2 : (∀ k, k < w - 0 → σ 89 (i + j * 5 + (0 + k)) = nI 0) ↔ rwB (σ 89) (i + j * 5) w = true := by
        unfold rwB
        rw [decide_eq_true_iff]
        simp only [Nat.sub_zero, Nat.zero_add]
      rw [inner, hnext]
      by_cases z : rwB (σ 89) (i + j * 5) w = true
      · rw [if_pos (e2.mpr z)]
        refine congrArg (fun x => some (nI x, σ)) (q_ifc ?_)
        constructor
        · intro a q hq
          rcases q with _ | q
          · exact z
          · have := a q (by omega)
            rw [show j + (q + 1) = j + 1 + q by omega]
            exact this
        · intro a q hq
          have := a (q + 1) (by omega)
          rw [show j + (q + 1) = j + 1 + q by omega] at this
          exact this
      · rw [if_neg (fun a => z (e2.mp a)), if_neg (fun a => z (a 0 (by omega)))]) h 0 N (by omega) (by omega)
    replace main : f6_isFree_L22 N (nI p) (nI c) (nI r) (nI w) (nI h) (fun σL22 => some (nI 1, σL22)) N (nI r) σ = _ := main
    rw [main]
    refine congrArg (fun x => some (nI x, σ)) (q_ifc ?_)
    rw [frn_ge]
    simp only [Nat.sub_zero, Nat.zero_add]
    exact ⟨fun a => ⟨by omega, a⟩, fun a => a.2⟩
  · rw [if_neg hrh]
    have := frn_le (σ 89) w (24 - r) i
    rw [if_neg (by omega)]
theorem s6_block (N p w h : Nat) (σ : Hp) (hN : 500 ≤ N) (hp : p ≤ 3) (hw : 1 ≤ w) (hw2 : w ≤ 5) (hh : h ≤ 24) (hh1 : 1 ≤ h) : f6_block N (nI p) (nI w) (nI h) σ = some (om (bk (σ 89) p w h) (-nI 1) nI, σ) := by
  have main := lpg (fun _ _ => none) (f6_block_B3 N (nI p) (nI w) (nI h) (fun σL3 => some (-nI 1, σL3))) (fun t r => t (nI r) σ) (fun r => some (om (fsN (bkR (σ 89) p w h) (25 - h - r) r) (-nI 1) nI, σ)) (25 - h) (by
    intro r'
    show f6_block_B3 _ _ _ _ _ _ _ _ = _
    unfold f6_block_B3
    simp (disch := omega) only [q_lit, q_gt, q_bd, q_bxl, q_bxr, q_vib, q_cl, q_pos, q_lt, q_le, q_eq, q_neg, q_neg1, q_negz, q_negeq0, q_neg0le, q_rem, q_div, q_sub, q_if1, q_if0, q_okB0, q_okB1, q_dz, q_dn, q_nb, and_true, true_and, and_false, false_and, nI_add, pk_mul, if_true, if_false, ite_true, ite_false, Nat.add_zero, Nat.zero_add, Nat.reduceAdd]
    rw [show 25 - h - (25 - h) = 0 by omega]
    rfl) (by
    intro r1 r hr hnext
    replace hnext : r1 (nI (r + 1)) σ = _ := hnext
    show f6_block_B3 _ _ _ _ _ _ _ _ = _
    unfold f6_block_B3
    simp (disch := omega) only [q_lit, q_gt, q_bd, q_bxl, q_bxr, q_vib, q_cl, q_pos, q_lt, q_le, q_eq, q_neg, q_neg1, q_negz, q_negeq0, q_neg0le, q_rem, q_div, q_sub, q_if1, q_if0, q_okB0, q_okB1, q_dz, q_dn, q_nb, and_true, true_and, and_false, false_and, nI_add, pk_mul, if_true, if_false, ite_true, ite_false, Nat.add_zero, Nat.zero_add, Nat.reduceAdd]
    have inner := lpg (fun _ _ => none) (f6_block_B15 N (nI p) (nI w) (nI h) (fun σL3 => some (-nI 1, σL3)) r1 (nI r) (fun σL15 => r1 (nI (r + 1)) σL15)) (fun t k => t (nI k) σ) (fun k => om (fsN (bkC (σ 89) p w h r) (6 - w - k) k) (r1 (nI (r + 1)) σ) (fun a => some (nI a, σ))) (6 - w) (by
      intro r'
      show f6_block_B15 _ _ _ _ _ _ _ _ _ _ _ = _
      unfold f6_block_B15
      simp (disch := omega) only [q_lit, q_gt, q_bd, q_bxl, q_bxr, q_vib, q_cl, q_pos, q_lt, q_le, q_eq, q_neg, q_neg1, q_negz, q_negeq0, q_neg0le, q_rem, q_div, q_sub, q_if1, q_if0, q_okB0, q_okB1, q_dz, q_dn, q_nb, and_true, true_and, and_false, false_and, nI_add, pk_mul, if_true, if_false, ite_true, ite_false, Nat.add_zero, Nat.zero_add, Nat.reduceAdd]
      rw [show 6 - w - (6 - w) = 0 by omega]
      rfl) (by
      intro r' k hk hn
      replace hn : r' (nI (k + 1)) σ = _ := hn
      show f6_block_B15 _ _ _ _ _ _ _ _ _ _ _ = _
      unfold f6_block_B15
      simp (disch := omega) only [q_lit, q_gt, q_bd, q_bxl, q_bxr, q_vib, q_cl, q_pos, q_lt, q_le, q_eq, q_neg, q_neg1, q_negz, q_negeq0, q_neg0le, q_rem, q_div, q_sub, q_if1, q_if0, q_okB0, q_okB1, q_dz, q_dn, q_nb, and_true, true_and, and_false, false_and, nI_add, pk_mul, if_true, if_false, ite_true, ite_false, Nat.add_zero, Nat.zero_add, Nat.reduceAdd, s6_isFree N p k r w h (120 * p + 5 * r + k) σ hN hp (by omega) (by omega) (by omega) rfl]
      rw [show 6 - w - k = 6 - w - (k + 1) + 1 by omega, fsN_s, om_om, ← hn]
      unfold bkC
      by_cases z : h ≤ frn (σ 89) w (24 - r) (120 * p + 5 * r + k)
      · rw [if_pos z, if_pos z]
        simp (disch := omega) only [q_lit, q_gt, q_bd, q_bxl, q_bxr, q_vib, q_cl, q_pos, q_lt, q_le, q_eq, q_neg, q_neg1, q_negz, q_negeq0, q_neg0le, q_rem, q_div, q_sub, q_if1, q_if0, q_okB0, q_okB1, q_dz, q_dn, q_nb, and_true, true_and, and_false, false_and, nI_add, pk_mul, if_true, if_false, ite_true, ite_false, Nat.add_zero, Nat.zero_add, Nat.reduceAdd]
        rw [Nat.mul_comm r 5]
        rfl
      · rw [if_neg z, if_neg z]
        simp (disch := omega) only [q_lit, q_gt, q_bd, q_bxl, q_bxr, q_vib, q_cl, q_pos, q_lt, q_le, q_eq, q_neg, q_neg1, q_negz, q_negeq0, q_neg0le, q_rem, q_div, q_sub, q_if1, q_if0, q_okB0, q_okB1, q_dz, q_dn, q_nb, and_true, true_and, and_false, false_and, nI_add, pk_mul, if_true, if_false, ite_true, ite_false, Nat.add_zero, Nat.zero_add, Nat.reduceAdd]
        rfl) (6 - w) 0 N (by omega) (by omega)
    replace inner : f6_block_L15 N (nI p) (nI w) (nI h) (fun σL3 => some (-nI 1, σL3)) r1 (nI r) (fun σL15 => r1 (nI (r + 1)) σL15) N (nI 0) σ = _ := inner
    rw [inner, hnext, show 25 - h - r = 25 - h - (r + 1) + 1 by omega, fsN_s, om_om, Nat.sub_zero]
    unfold bkR
    cases fsN (bkC (σ 89) p w h r) (6 - w) 0
    · rfl
    · rfl) (25 - h) 0 N (by omega) (by omega)
  exact main
