/-! the table of the search, as the reference keeps it; a way: what sticks out, how many above, demerits, its front -/
abbrev pt_C : Type := Int64 × Int32 × Int64 × Int32
abbrev pt_lt (ps : Nat) (x y : pt_C) : Prop := pm_bt ps x.1 y.1 x.2.1 y.2.1 x.2.2.1 y.2.2.1 x.2.2.2 y.2.2.2
def pt_kp (ps : Nat) (old : Option pt_C) (new : pt_C) : Option pt_C := match old with
  | none => some new
  | some x => if pt_lt ps new x then some new else some x
def pt_tb (iz : Nat → Int32) (ou : Nat → Int64) (ba : Nat → Int32) (de bc : Nat → Int64) (n j c : Nat) : Option pt_C := if iz (pm_at j n c) = 0 then none else some (ou (pm_at j n c), ba (pm_at j n c), de (pm_at j n c), pm_bk (bc (pm_pc j n)) c)
def pt_fr (j n : Nat) (iz : Nat → Int32) (ou : Nat → Int64) (ba : Nat → Int32) (de bc : Nat → Int64) (iz2 : Nat → Int32) (ou2 : Nat → Int64) (ba2 : Nat → Int32) (de2 bc2 : Nat → Int64) : Prop := (∀ a, (∀ c, c < 4 → a ≠ pm_at j n c) → iz2 a = iz a ∧ ou2 a = ou a ∧ ba2 a = ba a ∧ de2 a = de a) ∧ ∀ q, q ≠ pm_pc j n → bc2 q = bc q
theorem pt_fr_rf {j n : Nat} {iz : Nat → Int32} {ou : Nat → Int64} {ba : Nat → Int32} {de bc : Nat → Int64} : pt_fr j n iz ou ba de bc iz ou ba de bc := ⟨fun _ _ => ⟨rfl, rfl, rfl, rfl⟩, fun _ _ => rfl⟩
theorem pt_fr_tr {j n : Nat} {iz iz2 iz3 : Nat → Int32} {ou ou2 ou3 : Nat → Int64} {ba ba2 ba3 : Nat → Int32} {de de2 de3 bc bc2 bc3 : Nat → Int64} (h : pt_fr j n iz ou ba de bc iz2 ou2 ba2 de2 bc2) (h2 : pt_fr j n iz2 ou2 ba2 de2 bc2 iz3 ou3 ba3 de3 bc3) : pt_fr j n iz ou ba de bc iz3 ou3 ba3 de3 bc3 :=
  ⟨fun a ha => ⟨((h2.1 a ha).1).trans (h.1 a ha).1, ((h2.1 a ha).2.1).trans (h.1 a ha).2.1, ((h2.1 a ha).2.2.1).trans (h.1 a ha).2.2.1, ((h2.1 a ha).2.2.2).trans (h.1 a ha).2.2.2⟩, fun q hq => (h2.2 q hq).trans (h.2 q hq)⟩
/-- four ways packed in a number -/
theorem pt_sh : ∀ c, c < 4 → ((nI (16 * c)).toInt64 &&& 63).toBitVec.smod 64 = BitVec.ofNat 64 (16 * c) := by decide +kernel
theorem pt_bk_bit (x : Int64) (c : Nat) (hc : c < 4) (i : Nat) (hi : i < 32) : (pm_bk x c).toBitVec.getLsbD i = (decide (i < 16) && x.toBitVec.getLsbD (16 * c + i)) := by
  have h65 : (65535 : Int64).toBitVec = BitVec.ofNat 64 (2 ^ 16 - 1) := by decide +kernel
  have hn : (BitVec.ofNat 64 (16 * c)).toNat = 16 * c := by rw [BitVec.toNat_ofNat]; exact Nat.mod_eq_of_lt (by omega)
  unfold pm_bk
  rw [Int64.toBitVec_toInt32, BitVec.signExtend_eq_setWidth_of_le _ (by decide), BitVec.getLsbD_setWidth, Int64.toBitVec_and, BitVec.getLsbD_and, Int64.toBitVec_shiftRight, pt_sh c hc, h65]
  rw [BitVec.sshiftRight', hn, BitVec.getLsbD_sshiftRight]
  have e1 : ¬ (64 ≤ i) := by omega
  by_cases h : i < 16
  · have e2 : 16 * c + i < 64 := by omega
    have e3 : (BitVec.ofNat 64 (2 ^ 16 - 1)).getLsbD i = true := by
      rw [BitVec.getLsbD_ofNat, Nat.testBit_two_pow_sub_one]; simp [h]; omega
    rw [e3]
    simp [h, hi, e1, e2]
  · have e3 : (BitVec.ofNat 64 (2 ^ 16 - 1)).getLsbD i = false := by
      rw [BitVec.getLsbD_ofNat, Nat.testBit_two_pow_sub_one]; simp [h]
    rw [e3]
    simp [h]
theorem pt_bs_bit (x : Int64) (c : Nat) (hc : c < 4) (f : Nat) (hf : f < 65536) (i : Nat) (hi : i < 64) : (pm_bs x c (nI f)).toBitVec.getLsbD i = if 16 * c ≤ i ∧ i < 16 * c + 16 then f.testBit (i - 16 * c) else x.toBitVec.getLsbD i := by
  have h65 : (65535 : Int64).toBitVec = BitVec.ofNat 64 (2 ^ 16 - 1) := by decide +kernel
  have hm1 : (-1 : Int64).toBitVec = BitVec.allOnes 64 := by decide +kernel
  have hn : (BitVec.ofNat 64 (16 * c)).toNat = 16 * c := by rw [BitVec.toNat_ofNat]; exact Nat.mod_eq_of_lt (by omega)
  have hfb : (nI f).toInt64.toBitVec = BitVec.ofNat 64 f := by rw [nI_l (by omega)]; rfl
  unfold pm_bs
  rw [Int64.toBitVec_or, BitVec.getLsbD_or, Int64.toBitVec_and, BitVec.getLsbD_and, Int64.toBitVec_xor, BitVec.getLsbD_xor, Int64.toBitVec_shiftLeft, Int64.toBitVec_shiftLeft, pt_sh c hc, h65, hm1, hfb, BitVec.shiftLeft_eq', BitVec.shiftLeft_eq', hn, BitVec.getLsbD_shiftLeft, BitVec.getLsbD_shiftLeft, BitVec.getLsbD_allOnes, BitVec.getLsbD_ofNat, BitVec.getLsbD_ofNat, Nat.testBit_two_pow_sub_one]
  by_cases h1 : 16 * c ≤ i
  · have e1 : ¬ (i < 16 * c) := by omega
    by_cases h2 : i < 16 * c + 16
    · have e2 : i - 16 * c < 16 := by omega
      have e3 : i - 16 * c < 64 := by omega
      simp [h1, h2, e1, e2, e3, hi]
    · have e2 : ¬ (i - 16 * c < 16) := by omega
      have e4 : f.testBit (i - 16 * c) = false := Nat.testBit_lt_two_pow (Nat.lt_of_lt_of_le (show f < 2 ^ 16 from hf) (Nat.pow_le_pow_right (n := 2) (by decide) (by omega)))
      simp [h2, e2, e4, hi]
  · have e1 : i < 16 * c := by omega
    simp [h1, e1, hi]
theorem pt_bk_bs (x : Int64) (c c' : Nat) (hc : c < 4) (hc' : c' < 4) (f : Nat) (hf : f < 65536) : pm_bk (pm_bs x c (nI f)) c' = if c' = c then nI f else pm_bk x c' := by
  have hfb : (nI f).toBitVec = BitVec.ofNat 32 f := rfl
  apply Int32.toBitVec_inj.mp
  apply BitVec.eq_of_getLsbD_eq
  intro i hi
  rw [pt_bk_bit _ _ hc' i hi]
  by_cases h : i < 16
  · rw [pt_bs_bit x c hc f hf _ (by omega)]
    by_cases hcc : c' = c
    · subst hcc
      have e1 : 16 * c' ≤ 16 * c' + i ∧ 16 * c' + i < 16 * c' + 16 := by omega
      have e2 : 16 * c' + i - 16 * c' = i := by omega
      rw [if_pos e1, e2, if_pos rfl, hfb, BitVec.getLsbD_ofNat]
      simp [h, hi]
    · have e1 : ¬ (16 * c ≤ 16 * c' + i ∧ 16 * c' + i < 16 * c + 16) := by omega
      rw [if_neg e1, if_neg hcc, pt_bk_bit _ _ hc' i hi]
  · by_cases hcc : c' = c
    · have e4 : f.testBit i = false := Nat.testBit_lt_two_pow (Nat.lt_of_lt_of_le (show f < 2 ^ 16 from hf) (Nat.pow_le_pow_right (n := 2) (by decide) (by omega)))
      rw [if_pos hcc, hfb, BitVec.getLsbD_ofNat, e4]
      simp [h]
    · rw [if_neg hcc, pt_bk_bit _ _ hc' i hi]
      simp [h]
/-- one step of keep, on the table -/
theorem pt_keep {ps j n lc ft : Nat} {oo dd : Int64} {ab : Int32} {iz iz2 : Nat → Int32} {ou ou2 : Nat → Int64} {ba ba2 : Nat → Int32} {de de2 bc bc2 : Nat → Int64} (hlc : lc < 4) (hft : ft < 65536)
    (h : (pm_nw (iz (pm_at j n lc)) (pm_bt ps oo (ou (pm_at j n lc)) ab (ba (pm_at j n lc)) dd (de (pm_at j n lc)) (nI ft) (pm_bk (bc (pm_pc j n)) lc)) ∧ iz2 = upd iz (pm_at j n lc) (nI 1) ∧ ou2 = vp_updL ou (pm_at j n lc) oo ∧ ba2 = upd ba (pm_at j n lc) ab ∧ de2 = vp_updL de (pm_at j n lc) dd ∧ bc2 = vp_updL bc (pm_pc j n) (pm_bs (bc (pm_pc j n)) lc (nI ft))) ∨ (¬ (pm_nw (iz (pm_at j n lc)) (pm_bt ps oo (ou (pm_at j n lc)) ab (ba (pm_at j n lc)) dd (de (pm_at j n lc)) (nI ft) (pm_bk (bc (pm_pc j n)) lc))) ∧ iz2 = iz ∧ ou2 = ou ∧ ba2 = ba ∧ de2 = de ∧ bc2 = bc)) :
    (∀ c, c < 4 → pt_tb iz2 ou2 ba2 de2 bc2 n j c = if c = lc then pt_kp ps (pt_tb iz ou ba de bc n j c) (oo, ab, dd, nI ft) else pt_tb iz ou ba de bc n j c) ∧ pt_fr j n iz ou ba de bc iz2 ou2 ba2 de2 bc2 := by
  have n1 : ¬ nI 1 = 0 := by decide
  rcases h with ⟨hn, rfl, rfl, rfl, rfl, rfl⟩ | ⟨hn, rfl, rfl, rfl, rfl, rfl⟩
  · refine ⟨fun c hc => ?_, ⟨fun a ha => ?_, fun q hq => ?_⟩⟩
    · by_cases hcc : c = lc
      · subst hcc
        rw [if_pos rfl]
        simp only [pt_tb, upd, pm_upd, if_true, n1, if_false, pt_bk_bs _ c c hlc hlc ft hft]
        by_cases hz : iz (pm_at j n c) = 0
        · rw [if_pos hz]; rfl
        · rw [if_neg hz]
          have hb := hn.resolve_left hz
          show _ = (if pt_lt ps _ _ then _ else _)
          rw [if_pos hb]
      · have hat : ¬ pm_at j n c = pm_at j n lc := by unfold pm_at; omega
        rw [if_neg hcc]
        simp only [pt_tb, upd, pm_upd, hat, if_false, if_true, pt_bk_bs _ lc c hlc hc ft hft, hcc]
    · have h4 := ha lc hlc
      simp only [upd, pm_upd, h4, if_false, and_self]
    · simp only [pm_upd, hq, if_false]
  · refine ⟨fun c hc => ?_, pt_fr_rf⟩
    by_cases hcc : c = lc
    · subst hcc
      rw [if_pos rfl]
      have hz : ¬ iz2 (pm_at j n c) = 0 := fun z => hn (Or.inl z)
      have hb := fun b => hn (Or.inr b)
      simp only [pt_tb, hz, if_false]
      show _ = (if pt_lt ps _ _ then _ else _)
      rw [if_neg hb]
    · rw [if_neg hcc]
