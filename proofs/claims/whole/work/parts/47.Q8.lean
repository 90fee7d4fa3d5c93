/-! the class's lines are the reference's -/
theorem ql_r6 (x1 x2 x3 y1 y2 y3 : Int64) : x1 + x2 + x3 + (y1 + y2 + y3) = (x1 + y1) + (x2 + y2) + (x3 + y3) := by ac_rfl
theorem ql_rs3 (f g h : Nat → Int64) (b : Nat) : ∀ d, pm_rs (fun x => f x + g x + h x) b d = pm_rs f b d + pm_rs g b d + pm_rs h b d
  | 0 => by show (0 : Int64) = 0 + 0 + 0; decide
  | d + 1 => by
    show pm_rs _ b d + _ = (pm_rs f b d + _) + (pm_rs g b d + _) + (pm_rs h b d + _)
    rw [ql_rs3 f g h b d]
    exact ql_r6 _ _ _ _ _ _
abbrev ql_H (d : kj_D) (kd wd sr od sk ru me si : Nat → Int32) (cn mn ps : Nat) (br : Nat → Nat) (B : Nat) : Prop := (d.bn = B) ∧ (d.ps = ps) ∧ (∀ k, k < 9 → d.ru k = ru k) ∧ (1 ≤ ps) ∧ (ps ≤ 3) ∧ (∀ i, i < cn → d.iw (i + 1) = d.iw i + pm_it kd wd sr od sk i 0) ∧ (∀ i, i < cn → d.is_ (i + 1) = d.is_ i + pm_it kd wd sr od sk i 1) ∧ (∀ i, i < cn → d.ih (i + 1) = d.ih i + (pm_it kd wd sr od sk i 2 + pm_it kd wd sr od sk i 3 + pm_it kd wd sr od sk i 4)) ∧ (∀ i, i < cn → d.ij (i + 1) = d.ij i + pm_it kd wd sr od sk i 5) ∧ (∀ y, 1 ≤ y → y ≤ B → d.ti y = br (y - 1)) ∧ (∀ x y, x < y → y ≤ B → min (d.tg x) (br (y - 1)) = if x = 0 then 0 else pr_bg kd od (br (y - 1)) (br (x - 1))) ∧ (∀ y, 1 ≤ y → y ≤ B → (d.ba y).toInt64 = qr_ad kd sr cn br y) ∧ (∀ x, x ≤ B → (d.bb x).toInt64 = qr_be kd sk cn br x) ∧ (∀ n, 1 ≤ n → d.ms (max 1 (min n d.mc) - 1) = me (pm_mi n mn)) ∧ (d.l0 = (si 0).toInt64) ∧ (d.l1 = if si 2 = 0 then (si 1).toInt64 else 0) ∧ (d.l2 = if si 2 ≤ 0 then 0 else (si 1).toInt64) ∧ (d.l3 = (si 3).toInt64) ∧ (d.r0 = (si 4).toInt64) ∧ (d.r1 = if si 6 = 0 then (si 5).toInt64 else 0) ∧ (d.r2 = if si 6 ≤ 0 then 0 else (si 5).toInt64) ∧ (d.r3 = (si 7).toInt64) ∧ (∀ y, 1 ≤ y → y ≤ B → d.bo y = pm_pen kd wd od ru cn (br (y - 1))) ∧ (∀ x, x ≤ B → (d.bh x = 0 ↔ ¬ qr_h kd cn br x)) ∧ (∀ x y, x < y → y ≤ B → (d.lo y ≤ x ↔ qr_fr kd wd od ru cn br x y)) ∧ (∀ y, 1 ≤ y → y ≤ B → (y = B ↔ br (y - 1) = cn)) ∧ (∀ x, x < B → br x ≤ cn)
theorem ql_H.hB {d : kj_D} {kd wd sr od sk ru me si : Nat → Int32} {cn mn ps : Nat} {br : Nat → Nat} {B : Nat} (h : ql_H d kd wd sr od sk ru me si cn mn ps br B) : d.bn = B := h.1
theorem ql_H.hps {d : kj_D} {kd wd sr od sk ru me si : Nat → Int32} {cn mn ps : Nat} {br : Nat → Nat} {B : Nat} (h : ql_H d kd wd sr od sk ru me si cn mn ps br B) : d.ps = ps := h.2.1
theorem ql_H.hru {d : kj_D} {kd wd sr od sk ru me si : Nat → Int32} {cn mn ps : Nat} {br : Nat → Nat} {B : Nat} (h : ql_H d kd wd sr od sk ru me si cn mn ps br B) : ∀ k, k < 9 → d.ru k = ru k := h.2.2.1
theorem ql_H.hp1 {d : kj_D} {kd wd sr od sk ru me si : Nat → Int32} {cn mn ps : Nat} {br : Nat → Nat} {B : Nat} (h : ql_H d kd wd sr od sk ru me si cn mn ps br B) : 1 ≤ ps := h.2.2.2.1
theorem ql_H.hp3 {d : kj_D} {kd wd sr od sk ru me si : Nat → Int32} {cn mn ps : Nat} {br : Nat → Nat} {B : Nat} (h : ql_H d kd wd sr od sk ru me si cn mn ps br B) : ps ≤ 3 := h.2.2.2.2.1
theorem ql_H.hiw {d : kj_D} {kd wd sr od sk ru me si : Nat → Int32} {cn mn ps : Nat} {br : Nat → Nat} {B : Nat} (h : ql_H d kd wd sr od sk ru me si cn mn ps br B) : ∀ i, i < cn → d.iw (i + 1) = d.iw i + pm_it kd wd sr od sk i 0 := h.2.2.2.2.2.1
theorem ql_H.his {d : kj_D} {kd wd sr od sk ru me si : Nat → Int32} {cn mn ps : Nat} {br : Nat → Nat} {B : Nat} (h : ql_H d kd wd sr od sk ru me si cn mn ps br B) : ∀ i, i < cn → d.is_ (i + 1) = d.is_ i + pm_it kd wd sr od sk i 1 := h.2.2.2.2.2.2.1
theorem ql_H.hih {d : kj_D} {kd wd sr od sk ru me si : Nat → Int32} {cn mn ps : Nat} {br : Nat → Nat} {B : Nat} (h : ql_H d kd wd sr od sk ru me si cn mn ps br B) : ∀ i, i < cn → d.ih (i + 1) = d.ih i + (pm_it kd wd sr od sk i 2 + pm_it kd wd sr od sk i 3 + pm_it kd wd sr od sk i 4) := h.2.2.2.2.2.2.2.1
theorem ql_H.hij {d : kj_D} {kd wd sr od sk ru me si : Nat → Int32} {cn mn ps : Nat} {br : Nat → Nat} {B : Nat} (h : ql_H d kd wd sr od sk ru me si cn mn ps br B) : ∀ i, i < cn → d.ij (i + 1) = d.ij i + pm_it kd wd sr od sk i 5 := h.2.2.2.2.2.2.2.2.1
theorem ql_H.hti {d : kj_D} {kd wd sr od sk ru me si : Nat → Int32} {cn mn ps : Nat} {br : Nat → Nat} {B : Nat} (h : ql_H d kd wd sr od sk ru me si cn mn ps br B) : ∀ y, 1 ≤ y → y ≤ B → d.ti y = br (y - 1) := h.2.2.2.2.2.2.2.2.2.1
theorem ql_H.hbg {d : kj_D} {kd wd sr od sk ru me si : Nat → Int32} {cn mn ps : Nat} {br : Nat → Nat} {B : Nat} (h : ql_H d kd wd sr od sk ru me si cn mn ps br B) : ∀ x y, x < y → y ≤ B → min (d.tg x) (br (y - 1)) = if x = 0 then 0 else pr_bg kd od (br (y - 1)) (br (x - 1)) := h.2.2.2.2.2.2.2.2.2.2.1
theorem ql_H.hba {d : kj_D} {kd wd sr od sk ru me si : Nat → Int32} {cn mn ps : Nat} {br : Nat → Nat} {B : Nat} (h : ql_H d kd wd sr od sk ru me si cn mn ps br B) : ∀ y, 1 ≤ y → y ≤ B → (d.ba y).toInt64 = qr_ad kd sr cn br y := h.2.2.2.2.2.2.2.2.2.2.2.1
theorem ql_H.hbb {d : kj_D} {kd wd sr od sk ru me si : Nat → Int32} {cn mn ps : Nat} {br : Nat → Nat} {B : Nat} (h : ql_H d kd wd sr od sk ru me si cn mn ps br B) : ∀ x, x ≤ B → (d.bb x).toInt64 = qr_be kd sk cn br x := h.2.2.2.2.2.2.2.2.2.2.2.2.1
theorem ql_H.hms {d : kj_D} {kd wd sr od sk ru me si : Nat → Int32} {cn mn ps : Nat} {br : Nat → Nat} {B : Nat} (h : ql_H d kd wd sr od sk ru me si cn mn ps br B) : ∀ n, 1 ≤ n → d.ms (max 1 (min n d.mc) - 1) = me (pm_mi n mn) := h.2.2.2.2.2.2.2.2.2.2.2.2.2.1
theorem ql_H.hl0 {d : kj_D} {kd wd sr od sk ru me si : Nat → Int32} {cn mn ps : Nat} {br : Nat → Nat} {B : Nat} (h : ql_H d kd wd sr od sk ru me si cn mn ps br B) : d.l0 = (si 0).toInt64 := h.2.2.2.2.2.2.2.2.2.2.2.2.2.2.1
theorem ql_H.hl1 {d : kj_D} {kd wd sr od sk ru me si : Nat → Int32} {cn mn ps : Nat} {br : Nat → Nat} {B : Nat} (h : ql_H d kd wd sr od sk ru me si cn mn ps br B) : d.l1 = if si 2 = 0 then (si 1).toInt64 else 0 := h.2.2.2.2.2.2.2.2.2.2.2.2.2.2.2.1
theorem ql_H.hl2 {d : kj_D} {kd wd sr od sk ru me si : Nat → Int32} {cn mn ps : Nat} {br : Nat → Nat} {B : Nat} (h : ql_H d kd wd sr od sk ru me si cn mn ps br B) : d.l2 = if si 2 ≤ 0 then 0 else (si 1).toInt64 := h.2.2.2.2.2.2.2.2.2.2.2.2.2.2.2.2.1
theorem ql_H.hl3 {d : kj_D} {kd wd sr od sk ru me si : Nat → Int32} {cn mn ps : Nat} {br : Nat → Nat} {B : Nat} (h : ql_H d kd wd sr od sk ru me si cn mn ps br B) : d.l3 = (si 3).toInt64 := h.2.2.2.2.2.2.2.2.2.2.2.2.2.2.2.2.2.1
theorem ql_H.hr0 {d : kj_D} {kd wd sr od sk ru me si : Nat → Int32} {cn mn ps : Nat} {br : Nat → Nat} {B : Nat} (h : ql_H d kd wd sr od sk ru me si cn mn ps br B) : d.r0 = (si 4).toInt64 := h.2.2.2.2.2.2.2.2.2.2.2.2.2.2.2.2.2.2.1
theorem ql_H.hr1 {d : kj_D} {kd wd sr od sk ru me si : Nat → Int32} {cn mn ps : Nat} {br : Nat → Nat} {B : Nat} (h : ql_H d kd wd sr od sk ru me si cn mn ps br B) : d.r1 = if si 6 = 0 then (si 5).toInt64 else 0 := h.2.2.2.2.2.2.2.2.2.2.2.2.2.2.2.2.2.2.2.1
theorem ql_H.hr2 {d : kj_D} {kd wd sr od sk ru me si : Nat → Int32} {cn mn ps : Nat} {br : Nat → Nat} {B : Nat} (h : ql_H d kd wd sr od sk ru me si cn mn ps br B) : d.r2 = if si 6 ≤ 0 then 0 else (si 5).toInt64 := h.2.2.2.2.2.2.2.2.2.2.2.2.2.2.2.2.2.2.2.2.1
theorem ql_H.hr3 {d : kj_D} {kd wd sr od sk ru me si : Nat → Int32} {cn mn ps : Nat} {br : Nat → Nat} {B : Nat} (h : ql_H d kd wd sr od sk ru me si cn mn ps br B) : d.r3 = (si 7).toInt64 := h.2.2.2.2.2.2.2.2.2.2.2.2.2.2.2.2.2.2.2.2.2.1
theorem ql_H.hbo {d : kj_D} {kd wd sr od sk ru me si : Nat → Int32} {cn mn ps : Nat} {br : Nat → Nat} {B : Nat} (h : ql_H d kd wd sr od sk ru me si cn mn ps br B) : ∀ y, 1 ≤ y → y ≤ B → d.bo y = pm_pen kd wd od ru cn (br (y - 1)) := h.2.2.2.2.2.2.2.2.2.2.2.2.2.2.2.2.2.2.2.2.2.2.1
theorem ql_H.hbh {d : kj_D} {kd wd sr od sk ru me si : Nat → Int32} {cn mn ps : Nat} {br : Nat → Nat} {B : Nat} (h : ql_H d kd wd sr od sk ru me si cn mn ps br B) : ∀ x, x ≤ B → (d.bh x = 0 ↔ ¬ qr_h kd cn br x) := h.2.2.2.2.2.2.2.2.2.2.2.2.2.2.2.2.2.2.2.2.2.2.2.1
theorem ql_H.hlo {d : kj_D} {kd wd sr od sk ru me si : Nat → Int32} {cn mn ps : Nat} {br : Nat → Nat} {B : Nat} (h : ql_H d kd wd sr od sk ru me si cn mn ps br B) : ∀ x y, x < y → y ≤ B → (d.lo y ≤ x ↔ qr_fr kd wd od ru cn br x y) := h.2.2.2.2.2.2.2.2.2.2.2.2.2.2.2.2.2.2.2.2.2.2.2.2.1
theorem ql_H.hend {d : kj_D} {kd wd sr od sk ru me si : Nat → Int32} {cn mn ps : Nat} {br : Nat → Nat} {B : Nat} (h : ql_H d kd wd sr od sk ru me si cn mn ps br B) : ∀ y, 1 ≤ y → y ≤ B → (y = B ↔ br (y - 1) = cn) := h.2.2.2.2.2.2.2.2.2.2.2.2.2.2.2.2.2.2.2.2.2.2.2.2.2.1
theorem ql_H.hbr {d : kj_D} {kd wd sr od sk ru me si : Nat → Int32} {cn mn ps : Nat} {br : Nat → Nat} {B : Nat} (h : ql_H d kd wd sr od sk ru me si cn mn ps br B) : ∀ x, x < B → br x ≤ cn := h.2.2.2.2.2.2.2.2.2.2.2.2.2.2.2.2.2.2.2.2.2.2.2.2.2.2
section QL
variable {d : kj_D} {kd wd sr od sk ru me si : Nat → Int32} {cn mn ps : Nat} {br : Nat → Nat} {B : Nat}
theorem ql_dif {f g : Nat → Int64} {x y : Nat} (h : ql_H d kd wd sr od sk ru me si cn mn ps br B) (hf : ∀ i, i < cn → f (i + 1) = f i + g i) (hxy : x < y) (hy : y ≤ B) : f (d.ti y) - f (min (d.tg x) (d.ti y)) = pm_rs g (br (y - 1)) (br (y - 1) - (if x = 0 then 0 else pr_bg kd od (br (y - 1)) (br (x - 1)))) := by
  rw [h.hti y (by omega) hy, h.hbg x y hxy hy]
  have hle : (if x = 0 then 0 else pr_bg kd od (br (y - 1)) (br (x - 1))) ≤ br (y - 1) := by rw [← h.hbg x y hxy hy]; exact Nat.min_le_right _ _
  have := qa_sum hf (h.hbr (y - 1) (by omega)) (br (y - 1) - (if x = 0 then 0 else pr_bg kd od (br (y - 1)) (br (x - 1)))) (by omega)
  rw [show br (y - 1) - (br (y - 1) - (if x = 0 then 0 else pr_bg kd od (br (y - 1)) (br (x - 1)))) = (if x = 0 then 0 else pr_bg kd od (br (y - 1)) (br (x - 1))) by omega] at this
  exact this
theorem ql_E {n x y : Nat} (h : ql_H d kd wd sr od sk ru me si cn mn ps br B) (hn : 1 ≤ n) (hxy : x < y) (hy : y ≤ B) : kj_E d n x y = pm_ex (qr_S kd wd sr od sk br x y) si (qr_ad kd sr cn br y) (qr_be kd sk cn br x) (me (pm_mi n mn)) := by
  unfold kj_E pm_ex
  rw [ql_dif h h.hiw hxy hy, h.hl0, h.hr0, h.hba y (by omega) hy, h.hbb x (by omega), h.hms n hn]
  rfl
theorem ql_P {x y : Nat} (h : ql_H d kd wd sr od sk ru me si cn mn ps br B) (hxy : x < y) (hy : y ≤ B) : kj_P d x y = pm_pl (qr_S kd wd sr od sk br x y) si := by
  unfold kj_P pm_pl
  rw [ql_dif h h.his hxy hy, h.hl1, h.hr1]
  rfl
theorem ql_F {x y : Nat} (h : ql_H d kd wd sr od sk ru me si cn mn ps br B) (hxy : x < y) (hy : y ≤ B) : kj_F d x y = pm_fa (qr_S kd wd sr od sk br x y) si := by
  unfold kj_F pm_fa
  rw [ql_dif h h.hih hxy hy, h.hl2, h.hr2, ql_rs3 (fun i => pm_it kd wd sr od sk i 2) (fun i => pm_it kd wd sr od sk i 3) (fun i => pm_it kd wd sr od sk i 4)]
  rfl
theorem ql_L {x y : Nat} (h : ql_H d kd wd sr od sk ru me si cn mn ps br B) (hxy : x < y) (hy : y ≤ B) : kj_L d x y = pm_le (qr_S kd wd sr od sk br x y) si := by
  unfold kj_L pm_le
  rw [ql_dif h h.hij hxy hy, h.hl3, h.hr3]
  rfl
theorem ql_B {n x y : Nat} (h : ql_H d kd wd sr od sk ru me si cn mn ps br B) (hn : 1 ≤ n) (hxy : x < y) (hy : y ≤ B) : kj_B d n x y = qr_B kd wd sr od sk me si cn mn br n x y := by
  unfold kj_B qr_B pl_B
  rw [ql_E h hn hxy hy, ql_P h hxy hy, ql_F h hxy hy, ql_L h hxy hy]
theorem ql_C {n x y : Nat} (h : ql_H d kd wd sr od sk ru me si cn mn ps br B) (hn : 1 ≤ n) (hxy : x < y) (hy : y ≤ B) : kj_C d n x y = qr_C kd wd sr od sk me si cn mn br n x y := by
  unfold kj_C qr_C pl_C
  rw [ql_E h hn hxy hy, ql_P h hxy hy, ql_F h hxy hy, ql_L h hxy hy]
theorem ql_O {n x y : Nat} (h : ql_H d kd wd sr od sk ru me si cn mn ps br B) (hn : 1 ≤ n) (hxy : x < y) (hy : y ≤ B) : kj_O d n x y = qr_O kd wd sr od sk me si cn mn br n x y := by
  unfold kj_O qr_O pl_O
  rw [ql_E h hn hxy hy, ql_L h hxy hy]
theorem ql_cl {n x y : Nat} (h : ql_H d kd wd sr od sk ru me si cn mn ps br B) (hn : 1 ≤ n) (hxy : x < y) (hy : y ≤ B) : kj_cl d n x y = qr_cl kd wd sr od sk ru me si cn mn ps br n x y := by
  have h1 := h.hp1
  have h3 := h.hp3
  unfold kj_cl qr_cl kj_ok
  rw [ql_B h hn hxy hy, ql_C h hn hxy hy, ql_O h hn hxy hy, h.hps]
  unfold pm_ok
  rw [h.hru (ps - 1) (by omega)]
  simp only [h.hlo x y hxy hy]
/-- a weight, as the class keeps it -/
def ql_p (ps : Nat) (v : qx_V) : qx_V := (v.1, if ps = 3 then v.2.1 else 0, v.2.2)
theorem pk_dem_congr {ru ru2 : Nat → Int32} {fb p hx hy : Int32} {y n : Nat} (h : ∀ k, k < 9 → ru k = ru2 k) : pk_dem ru fb p hx hy y n = pk_dem ru2 fb p hx hy y n := by
  unfold pk_dem
  rw [h 2 (by decide), h 6 (by decide), h 7 (by decide)]
theorem ql_dm {n x y z : Nat} (h : ql_H d kd wd sr od sk ru me si cn mn ps br B) (hn : 1 ≤ n) (hxy : x < y) (hy : y ≤ B) : kj_m d n x y + (if pm_adj (kj_C d n x y) z then (d.ru 5).toInt64 else 0) = qr_D kd wd sr od sk ru me si cn mn br n x y z := by
  unfold kj_m qr_D
  have hy2 : d.bh y = 0 ↔ ¬ pm_hy kd cn (br (y - 1)) := by
    rw [h.hbh y hy]
    exact ⟨fun q w => q ⟨by omega, w⟩, fun q w => q w.2⟩
  rw [pk_dem_congr h.hru, ql_B h hn hxy hy, ql_C h hn hxy hy, h.hru 5 (by decide), h.hbo y (by omega) hy, h.hB]
  exact qa_dem (h.hbh x (by omega)) hy2 (h.hend y (by omega) hy)
theorem ql_sx {n x y z : Nat} (h : ql_H d kd wd sr od sk ru me si cn mn ps br B) (hn : 1 ≤ n) (hxy : x < y) (hy : y ≤ B) (v : qx_V) (k : Nat) : kj_sx d n x y z (ql_p ps v, k) = (ql_p ps (qr_st kd wd sr od sk ru me si cn mn br n x y z v), k + 1) := by
  unfold kj_sx ke_st ql_p qr_st
  simp only [Int64.add_assoc]
  rw [ql_dm h hn hxy hy, ql_O h hn hxy hy, ql_B h hn hxy hy, h.hps, h.hru 1 (by decide)]
  unfold pk_ov
  by_cases e : ps = 3
  · simp only [e, if_true]
  · simp only [e, if_false]
    rfl
end QL
theorem ql_lt {ps : Nat} (v w : qx_V) : qx_lt 3 (ql_p ps v) (ql_p ps w) ↔ qx_lt ps v w := by
  unfold qx_lt ql_p
  by_cases e : ps = 3
  · simp only [e, if_true]
  · simp only [e, if_false, if_true]
