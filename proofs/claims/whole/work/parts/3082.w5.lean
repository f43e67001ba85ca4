-- linking: taking over what an import means
theorem mcnt_le {v : Nat → Int64} {κ : Int} : ∀ (m k : Nat), k ≤ m → mcnt v κ k ≤ mcnt v κ m
  | 0, k, h => by
    have e : k = 0 := by omega
    subst e
    exact Nat.le_refl _
  | m + 1, k, h => by
    by_cases h1 : k = m + 1
    · subst h1
      exact Nat.le_refl _
    · have h2 := mcnt_le (v := v) (κ := κ) m k (by omega)
      show _ ≤ mcnt v κ m + _
      omega
theorem mcnt_lt {v : Nat → Int64} {κ : Int} {m k : Nat} (h : k < m) (hk : (v (7 * k + 1)).toInt = κ) : mcnt v κ k < mcnt v κ m := by
  have h1 := mcnt_le (v := v) (κ := κ) m (k + 1) h
  have h2 : mcnt v κ (k + 1) = mcnt v κ k + (if (v (7 * k + 1)).toInt = κ then 1 else 0) := rfl
  rw [if_pos hk] at h2
  omega
theorem mcnt_s {v : Nat → Int64} {κ : Int} {k : Nat} (hk : (v (7 * k + 1)).toInt = κ) : mcnt v κ (k + 1) = mcnt v κ k + 1 := by
  show _ + (if (v (7 * k + 1)).toInt = κ then 1 else 0) = _
  rw [if_pos hk]
theorem mcnt_n {v : Nat → Int64} {κ : Int} {k : Nat} (hk : (v (7 * k + 1)).toInt ≠ κ) : mcnt v κ (k + 1) = mcnt v κ k := by
  show _ + (if (v (7 * k + 1)).toInt = κ then 1 else 0) = _
  rw [if_neg hk]
  rfl
theorem mcnt_id {v : Nat → Int64} {κ : Int} : ∀ m : Nat, mcnt v κ m ≤ m
  | 0 => Nat.le_refl _
  | m + 1 => by
    have := mcnt_id (v := v) (κ := κ) m
    show mcnt v κ m + (if _ then 1 else 0) ≤ m + 1
    split <;> omega
theorem cRl_14 : ∀ e ∈ cRl, e.1 = 14 → e.2.1 ≠ 14 ∧ e.2.1 ≠ 15 := by decide
section W5
variable {own own' ad ad' : Nat → Nat} {h h' : xb_H} {W : wD} {σ : Nat}
theorem cB.P14 {f : Nat} {x : Option Nat} (hB : cB own ad h) (hf : f = 14 ∨ f = 15) : cB own ad (xb_P h (ad 14) f x) := by
  refine ⟨hB.1, fun e he => ?_⟩
  rw [xh_rP]
  split
  · rename_i h9
    have e1 : e.1 = 14 := by
      by_cases h8 : e.1 = 14
      · exact h8
      · exact absurd h9 (hB.ne (cRl_lt e he).1 (by omega) h8)
    have := cRl_14 e he e1
    rw [xh_up, if_neg (by omega), ← e1]
    exact hB.r e he
  · exact hB.r e he
theorem lkR.P14 {f : Nat} {x : Option Nat} (hB : cB own ad h) (hf : f = 14 ∨ f = 15) : lkR own ad own ad h (xb_P h (ad 14) f x) := ⟨hB.P14 hf, fun _ _ _ => rfl, fun _ _ => rfl, fun _ _ => ⟨rfl, rfl⟩, fun a _ h1 _ _ _ _ => xh_smP _ _ _ h1, fun _ _ _ => rfl, .inl rfl, .inl rfl⟩
theorem lkR.add {r q : Nat} (hr : r = 32 ∨ r = 34) (hB : cB own ad h) (hB' : cB (rown own h q (r + 3)) (va_up ad (r + 1) q) h') (hq : q = ad (r + 1) ∨ xb_k h q = 0) (hf : ∀ a, xb_k h a ≠ 0 → a ≠ ad r → a ≠ ad (r + 1) → xh_sm h h' a) (he : xb_ext h h') : lkR own ad (rown own h q (r + 3)) (va_up ad (r + 1) q) h h' := by
  refine ⟨hB', fun k k1 k2 => by rw [xh_up, if_neg (by omega)], fun a ha => rown_old ha, he, fun a ha c1 c2 c3 c4 c5 => ?_, fun j _ _ => ?_, ?_, ?_⟩
  · rcases hr with e | e
    · subst e; exact hf a ha c2 c3
    · subst e; exact hf a ha c4 c5
  · have s := hf (ad 14) (hB.z 14 (by omega)) (hB.ne (by omega) (by omega) (by omega)) (hB.ne (by omega) (by omega) (by omega))
    rw [s.1]
  · rw [xh_up]
    split
    · rename_i h9
      have e : r = 32 := by omega
      subst e
      exact hq
    · exact .inl rfl
  · rw [xh_up]
    split
    · rename_i h9
      have e : r = 34 := by omega
      subst e
      exact hq
    · exact .inl rfl
/-- limits hold what is asked -/
def wnO (d : mD) (k i : Nat) (sz mx : Int) : Prop := (dvs d k (3 * i + 1)).toInt ≤ sz ∧ ((dvs d k (3 * i + 2)).toInt = -1 ∨ (mx ≠ -1 ∧ mx ≤ (dvs d k (3 * i + 2)).toInt))
theorem mo_isWithin {md k i : Nat} {d : mD} {x1 x2 : Int32} {x3 : Int64} {Qr : Int32 → xb_H → Prop} (hm : mo own h md d) (hk : k = 3 ∨ k = 4) (hx1 : x1.toInt = i) (hi : i < dn d k / 3) (hQ : ∀ r : Int32, (r = 0 ∧ ¬ wnO d k i x2.toInt x3.toInt) ∨ (r = 1 ∧ wnO d k i x2.toInt x3.toInt) → Qr r h) : w_World_isWithin (drw d k) x1 x2 x3 h Qr := by
  have hk12 : k < 12 := by omega
  have hcc : xr_c k = 3 := by rcases hk with e | e <;> (rw [e]; rfl)
  have hi3 : 3 * i + 3 ≤ dn d k := by
    have := Nat.div_mul_le_self (dn d k) 3
    omega
  have q0 : ¬ wnO d k i x2.toInt x3.toInt → ((0 : Int32) = 0 ∨ (0 : Int32) = 1) ∧ Qr 0 h := fun h9 => ⟨.inl rfl, hQ 0 (.inl ⟨rfl, h9⟩)⟩
  have q1 : wnO d k i x2.toInt x3.toInt → ((1 : Int32) = 0 ∨ (1 : Int32) = 1) ∧ Qr 1 h := fun h9 => ⟨.inr rfl, hQ 1 (.inr ⟨rfl, h9⟩)⟩
  unfold wnO at q0 q1
  unfold w_World_isWithin w_World_isWithin_L48 w_World_isWithin_L44 w_World_isWithin_L49
  refine ⟨hm.1.krow hk12, md_longAt hm.1 (k := k) (c := 3) (i := i) (j := 2) hk12 hcc hx1 rfl (by omega) hi3 (fun _ => md_longAt hm.1 (k := k) (c := 3) (i := i) (j := 1) hk12 hcc hx1 rfl (by omega) hi3 (fun _ => ⟨fun e1 => q0 ?_, fun e1 => ⟨fun e2 => q1 ?_, fun e2 => ⟨fun e3 => q0 ?_, fun e3 => ⟨fun e4 => q0 ?_, fun e4 => q1 ?_⟩⟩⟩⟩))⟩
  all_goals rw [Z_lt, Z_of32] at e1
  all_goals (try rw [Z_eq, show (-1 : Int64).toInt = -1 from rfl] at e2)
  all_goals (try rw [Z_eq, show (-1 : Int64).toInt = -1 from rfl] at e3)
  all_goals (try rw [Z_lt] at e4)
  all_goals omega
theorem mo.var {md i : Nat} {d : mD} (hm : mo own h md d) (hi : i < nvr d) : 4 * i + 4 ≤ dn d 5 ∧ 124 ≤ (dvs d 5 (4 * i + 1)).toInt ∧ (dvs d 5 (4 * i + 1)).toInt ≤ 127 ∧ ((dvs d 5 (4 * i + 2)).toInt = 0 ∨ (dvs d 5 (4 * i + 2)).toInt = 1) := by
  obtain ⟨⟨m, h1⟩, h2⟩ := hm.2.1.2.2.2.2.2.1
  obtain ⟨⟨g1, g2, g3⟩, -⟩ := h2 i hi
  unfold nvr at hi
  exact ⟨by omega, g1, g2, g3⟩
theorem mo_sameVariable {m1 m2 i1 i2 : Nat} {d1 d2 : mD} {x1 x3 : Int32} {Qr : Int32 → xb_H → Prop} (hm1 : mo own h m1 d1) (hm2 : mo own h m2 d2) (hx1 : x1.toInt = i1) (hx3 : x3.toInt = i2) (h1 : i1 < nvr d1) (h2 : i2 < nvr d2) (hQ : ∀ r : Int32, (r = 0 ∧ ¬ ((dvs d1 5 (4 * i1 + 1)).toInt = (dvs d2 5 (4 * i2 + 1)).toInt ∧ (dvs d1 5 (4 * i1 + 2)).toInt = (dvs d2 5 (4 * i2 + 2)).toInt)) ∨ (r = 1 ∧ (dvs d1 5 (4 * i1 + 1)).toInt = (dvs d2 5 (4 * i2 + 1)).toInt ∧ (dvs d1 5 (4 * i1 + 2)).toInt = (dvs d2 5 (4 * i2 + 2)).toInt) → Qr r h) : w_World_sameVariable m1 x1 m2 x3 h Qr := by
  obtain ⟨a1, a2, a3, a4⟩ := hm1.var h1
  obtain ⟨b1, b2, b3, b4⟩ := hm2.var h2
  have q0 : ¬ ((dvs d1 5 (4 * i1 + 1)).toInt = (dvs d2 5 (4 * i2 + 1)).toInt ∧ (dvs d1 5 (4 * i1 + 2)).toInt = (dvs d2 5 (4 * i2 + 2)).toInt) → ((0 : Int32) = 0 ∨ (0 : Int32) = 1) ∧ Qr 0 h := fun h9 => ⟨.inl rfl, hQ 0 (.inl ⟨rfl, h9⟩)⟩
  unfold w_World_sameVariable w_World_sameVariable_L46 w_World_sameVariable_L47
  refine ⟨hm1.1.k, _, hm1.1.row (k := 5) (by omega), hm1.1.krow (by omega), md_at (c := 4) hm1.1 (i := i1) (j := 1) (by omega) rfl hx1 rfl (by omega) a1 (fun r5 e5 _ => ⟨hm2.1.k, _, hm2.1.row (k := 5) (by omega), hm2.1.krow (by omega), md_at (c := 4) hm2.1 (i := i2) (j := 1) (by omega) rfl hx3 rfl (by omega) b1 (fun r10 e10 _ => ⟨fun e => q0 (fun h9 => e (z_eq.mpr (by omega))), fun e => ⟨_, hm1.1.row (k := 5) (by omega), hm1.1.krow (by omega), md_at (c := 4) hm1.1 (i := i1) (j := 2) (by omega) rfl hx1 rfl (by omega) a1 (fun r15 e15 _ => ⟨_, hm2.1.row (k := 5) (by omega), hm2.1.krow (by omega), md_at (c := 4) hm2.1 (i := i2) (j := 2) (by omega) rfl hx3 rfl (by omega) b1 (fun r19 e19 _ => ⟨fun e2 => q0 (fun h9 => e2 (z_eq.mpr (by omega))), fun e2 => ⟨.inr rfl, hQ 1 (.inr ⟨rfl, ?_, ?_⟩)⟩⟩)⟩)⟩⟩)⟩)⟩
  · rw [z_eq] at e
    omega
  · rw [z_eq] at e2
    omega
/-- an import's line -/
theorem mo.imp {md k : Nat} {d : mD} (hm : mo own h md d) (hk : k < dn d 1 / 7) : ∃ κ : Nat, κ < 4 ∧ (dvs d 1 (7 * k + 1)).toInt = κ ∧ (dvs d 1 (7 * k + 2)).toInt = mcnt (dvs d 1) κ k ∧ mcnt (dvs d 1) κ k < ni d κ ∧ 7 * k + 7 ≤ dn d 1 ∧ (0 ≤ (dvs d 1 (7 * k + 3)).toInt ∧ 0 ≤ (dvs d 1 (7 * k + 4)).toInt ∧ (dvs d 1 (7 * k + 3)).toInt + (dvs d 1 (7 * k + 4)).toInt ≤ dN d) ∧ (0 ≤ (dvs d 1 (7 * k + 5)).toInt ∧ 0 ≤ (dvs d 1 (7 * k + 6)).toInt ∧ (dvs d 1 (7 * k + 5)).toInt + (dvs d 1 (7 * k + 6)).toInt ≤ dN d) ∧ dN d ≤ 65536 ∧ dn d 1 ≤ 131072 := by
  have hv := hm.2.1
  obtain ⟨⟨p1, p2, p3, p4, p5, p6, p7, p8, p9, p10, p11⟩, p12⟩ := hv.2.1.1.at (by omega) hk
  dsimp only at p1 p2 p3 p4 p5 p6 p7 p8 p9 p10 p11
  have h4 := hv.2.2.2.2.2.2.2.2.2.2.2.1 1 (by omega)
  have h5 := hv.2.2.2.2.2.2.2.2.2.2.2.2.1
  obtain ⟨κ, hκ⟩ : ∃ κ : Nat, (dvs d 1 (7 * k + 1)).toInt = κ := ⟨_, (Int.toNat_of_nonneg p3).symm⟩
  have hc := hv.2.1.2.1 κ (by omega)
  rw [hκ] at p5
  refine ⟨κ, by omega, hκ, p5, ?_, p12, ⟨p6, p7, p8⟩, ⟨p9, p10, p11⟩, h5, by omega⟩
  have := mcnt_lt (v := dvs d 1) (κ := (κ : Int)) hk hκ
  unfold ni
  omega
theorem mo.nn {md : Nat} {d : mD} (hm : mo own h md d) : ni d 0 ≤ nf d ∧ ni d 3 ≤ nvr d ∧ nf d ≤ 65536 ∧ nvr d ≤ 65536 ∧ (∀ κ, κ < 4 → (div_ d κ).toInt = ni d κ) ∧ ni d 1 ≤ dn d 3 / 3 ∧ ni d 2 ≤ dn d 4 / 3 ∧ ∀ κ, κ < 4 → ni d κ = mcnt (dvs d 1) κ (dn d 1 / 7) := by
  have hv := hm.2.1
  obtain ⟨q0, q1, q2, q3⟩ := hv.2.1.2.2
  have hc := hv.2.1.2.1
  have h4 := hv.2.2.2.2.2.2.2.2.2.2.2.1
  have h5 := hv.2.2.2.2.2.2.2.2.2.2.2.2.1
  have h6 := h4 2 (by omega)
  have h7 := h4 5 (by omega)
  unfold ni nf nvr
  refine ⟨by omega, by omega, by omega, by omega, fun κ hκ => ?_, by omega, by omega, fun κ hκ => ?_⟩
  · have := hc κ hκ
    omega
  · have := hc κ hκ
    omega
/-- what an import is taken to be, where it fits -/
def tkF (h : xb_H) (W : wD) (d : mD) (k κ i num v : Nat) : Prop :=
  (κ = 0 → v = fnI h W i num ∧ fT W v = ftm d (mcnt (dvs d 1) 0 k)) ∧ (κ = 1 → xb_r h (wia W i) 6 = some v ∧ wnO d 3 (mcnt (dvs d 1) 1 k) (xb_i h v 1).toInt (xb_l h v 2).toInt) ∧ (κ = 2 → xb_r h (wia W i) 7 = some v ∧ wnO d 4 (mcnt (dvs d 1) 2 k) (xb_i h v 3).toInt (xb_l h v 1).toInt) ∧
  (κ = 3 → v = vnI h W i num ∧ (dvs d 5 (4 * mcnt (dvs d 1) 3 k + 1)).toInt = (dvs (wd W i) 5 (4 * num + 1)).toInt ∧ (dvs d 5 (4 * mcnt (dvs d 1) 3 k + 2)).toInt = (dvs (wd W i) 5 (4 * num + 2)).toInt)
/-- what is noted of an import -/
def lkI (ad : Nat → Nat) (h : xb_H) (d : mD) (κ k v : Nat) : Prop := (κ = 0 → (xb_l h (ad 33) (mcnt (dvs d 1) 0 k)).toInt = v) ∧ (κ = 3 → (xb_l h (ad 35) (mcnt (dvs d 1) 3 k)).toInt = v) ∧ (κ = 1 → xb_r h (ad 14) 14 = some v) ∧ (κ = 2 → xb_r h (ad 14) 15 = some v)
/-- what was noted stays -/
def lkE (ad : Nat → Nat) (h : xb_H) (ad' : Nat → Nat) (h' : xb_H) (d : mD) (k : Nat) : Prop := (∀ j, j < mcnt (dvs d 1) 0 k → xb_l h' (ad' 33) j = xb_l h (ad 33) j) ∧ (∀ j, j < mcnt (dvs d 1) 3 k → xb_l h' (ad' 35) j = xb_l h (ad 35) j) ∧ (0 < mcnt (dvs d 1) 1 k → xb_r h' (ad' 14) 14 = xb_r h (ad 14) 14) ∧ (0 < mcnt (dvs d 1) 2 k → xb_r h' (ad' 14) 15 = xb_r h (ad 14) 15) ∧ xb_i h' (ad' 14) = xb_i h (ad 14)
/-- a function or variable that is meant stays the one, where what belongs to the instance stays -/
theorem fnI_sm {i k : Nat} (hi : iO own ad h W i) (sm : ∀ a, xb_k h a ≠ 0 → own a = 1 → xh_sm h h' a) : fnI h' W i k = fnI h W i k := by
  obtain ⟨⟨a1, a2, a3, a4, a5⟩, ⟨fa, b1, b2, b3, b4, b5⟩, -⟩ := id hi
  unfold fnI
  rw [(sm (wia W i) (by omega) a2).2.2, b1, Option.getD_some, (sm fa (by omega) b3).2.1]
theorem vnI_sm {i k : Nat} (hi : iO own ad h W i) (sm : ∀ a, xb_k h a ≠ 0 → own a = 1 → xh_sm h h' a) : vnI h' W i k = vnI h W i k := by
  obtain ⟨⟨a1, a2, a3, a4, a5⟩, -, ⟨va, b1, b2, b3, b4, b5⟩, -⟩ := id hi
  unfold vnI
  rw [(sm (wia W i) (by omega) a2).2.2, b1, Option.getD_some, (sm va (by omega) b3).2.1]
theorem lkS.addF {d : mD} {k q f : Nat} (hB : cB own ad h) (hS : lkS own ad h W d k) (hR : lkR own ad (rown own h q 35) (va_up ad 33 q) h h') (h1 : xr_row h' (ad 32) 1 (mcnt (dvs d 1) 0 k + 1) q) (h2 : ∀ j, j < mcnt (dvs d 1) 0 k → xb_l h' q j = xb_l h (ad 33) j) (h3 : (xb_l h' q (mcnt (dvs d 1) 0 k)).toInt = f) (h4 : vf W f) (h5 : fT W f = ftm d (mcnt (dvs d 1) 0 k)) (hf : ∀ a, xb_k h a ≠ 0 → a ≠ ad 32 → a ≠ ad 33 → xh_sm h h' a) (hκ : (dvs d 1 (7 * k + 1)).toInt = 0) : lkS (rown own h q 35) (va_up ad 33 q) h' W d (k + 1) := by
  obtain ⟨⟨s1, s2⟩, ⟨s3, s4⟩, ⟨s5, s6⟩, s7, s8⟩ := hS
  have he := hR.2.2.2.1
  have s14 := hf (ad 14) (hB.z 14 (by omega)) (hB.ne (by omega) (by omega) (by omega)) (hB.ne (by omega) (by omega) (by omega))
  have s34 := hf (ad 34) (hB.z 34 (by omega)) (hB.ne (by omega) (by omega) (by omega)) (hB.ne (by omega) (by omega) (by omega))
  have s35 := hf (ad 35) (hB.z 35 (by omega)) (hB.ne (by omega) (by omega) (by omega)) (hB.ne (by omega) (by omega) (by omega))
  have A : ∀ j, j ≠ 33 → va_up ad 33 q j = ad j := fun j hj => by rw [xh_up, if_neg hj]
  have A3 : va_up ad 33 q 33 = q := by rw [xh_up, if_pos rfl]
  unfold lkS fF fV
  rw [A 32 (by omega), A 34 (by omega), A 35 (by omega), A 14 (by omega), A3, mcnt_s hκ, mcnt_n (κ := 3) (by omega), mcnt_n (κ := 1) (by omega), mcnt_n (κ := 2) (by omega), s14.2.2, s35.2.1]
  refine ⟨⟨h1, fun j hj => ?_⟩, ⟨s3.fr s34 he, s4⟩, ⟨s5, fun h9 => ?_⟩, s7, fun h9 => ?_⟩
  · by_cases e : j = mcnt (dvs d 1) 0 k
    · subst e
      exact ⟨f, h3, h4, h5⟩
    · rw [h2 j (by omega)]
      exact s2 j (by omega)
  · obtain ⟨ta, g1, g2⟩ := s6 h9
    exact ⟨ta, g1, g2.lk hB hR⟩
  · obtain ⟨ma, g1, g2⟩ := s8 h9
    exact ⟨ma, g1, g2.lk hB hR⟩
theorem lkS.addV {d : mD} {k q v : Nat} (hB : cB own ad h) (hS : lkS own ad h W d k) (hR : lkR own ad (rown own h q 37) (va_up ad 35 q) h h') (h1 : xr_row h' (ad 34) 1 (mcnt (dvs d 1) 3 k + 1) q) (h2 : ∀ j, j < mcnt (dvs d 1) 3 k → xb_l h' q j = xb_l h (ad 35) j) (h3 : (xb_l h' q (mcnt (dvs d 1) 3 k)).toInt = v) (h4 : v < wnv W) (h5 : wvt W v = (dvs d 5 (4 * mcnt (dvs d 1) 3 k + 1)).toInt) (hf : ∀ a, xb_k h a ≠ 0 → a ≠ ad 34 → a ≠ ad 35 → xh_sm h h' a) (hκ : (dvs d 1 (7 * k + 1)).toInt = 3) : lkS (rown own h q 37) (va_up ad 35 q) h' W d (k + 1) := by
  obtain ⟨⟨s1, s2⟩, ⟨s3, s4⟩, ⟨s5, s6⟩, s7, s8⟩ := hS
  have he := hR.2.2.2.1
  have s14 := hf (ad 14) (hB.z 14 (by omega)) (hB.ne (by omega) (by omega) (by omega)) (hB.ne (by omega) (by omega) (by omega))
  have s34 := hf (ad 32) (hB.z 32 (by omega)) (hB.ne (by omega) (by omega) (by omega)) (hB.ne (by omega) (by omega) (by omega))
  have s35 := hf (ad 33) (hB.z 33 (by omega)) (hB.ne (by omega) (by omega) (by omega)) (hB.ne (by omega) (by omega) (by omega))
  have A : ∀ j, j ≠ 35 → va_up ad 35 q j = ad j := fun j hj => by rw [xh_up, if_neg hj]
  have A3 : va_up ad 35 q 35 = q := by rw [xh_up, if_pos rfl]
  unfold lkS fF fV
  rw [A 32 (by omega), A 34 (by omega), A 33 (by omega), A 14 (by omega), A3, mcnt_s hκ, mcnt_n (κ := 0) (by omega), mcnt_n (κ := 1) (by omega), mcnt_n (κ := 2) (by omega), s14.2.2, s35.2.1]
  refine ⟨⟨s1.fr s34 he, s2⟩, ⟨h1, fun j hj => ?_⟩, ⟨s5, fun h9 => ?_⟩, s7, fun h9 => ?_⟩
  · by_cases e : j = mcnt (dvs d 1) 3 k
    · subst e
      exact ⟨v, h3, h4, h5⟩
    · rw [h2 j (by omega)]
      exact s4 j (by omega)
  · obtain ⟨ta, g1, g2⟩ := s6 h9
    exact ⟨ta, g1, g2.lk hB hR⟩
  · obtain ⟨ma, g1, g2⟩ := s8 h9
    exact ⟨ma, g1, g2.lk hB hR⟩
theorem wI_takeOver {md k i num κ rc rs bc bs : Nat} {d : mD} {x2 x4 : Int32} {Qr : Int32 → xb_H → Nat → Nat → Prop} (hB : cB own ad h) (hW : wI own ad h W σ) (hm : mo own h md d) (hS : lkS own ad h W d k) (hx2 : x2.toInt = k) (hk : k < dn d 1 / 7) (hκ : (dvs d 1 (7 * k + 1)).toInt = κ) (hi : i < wic W) (hx4 : x4.toInt = num) (hnum : (κ = 0 → num < nf (wd W i)) ∧ (κ = 3 → num < nvr (wd W i))) (hg : bg ad h rc rs bc bs)
    (hQ : ∀ (h' : xb_H) (own' ad' : Nat → Nat) (r : Int32) (bc' bs' : Nat), lkR own ad own' ad' h h' → wI own' ad' h' W σ → ((r = 0 ∧ ∀ v, ¬ tkF h W d k κ i num v) ∨ (r = 1 ∧ lkS own' ad' h' W d (k + 1) ∧ ∃ v, tkF h W d k κ i num v ∧ lkI ad' h' d κ k v ∧ lkE ad h ad' h' d k)) → bg ad' h' rc rs bc' bs' → Qr r h' bc' bs') : w_World_takeOver (ad 14) md x2 (wia W i) x4 h bc bs Qr := by
  obtain ⟨κ', c1, c2, c3, c4, c5, c6, c7, c8, c9⟩ := hm.imp hk
  have eκ : κ' = κ := by omega
  subst eκ
  obtain ⟨n1, n2, n3, n4, n5, n6, n7, n8⟩ := hm.nn
  have hL := hW.2.2.2.2.2.2.1
  have hiO := (hL.2.2.2 i hi).2
  have hno := hW.1.2.1
  have hnv := hW.2.1.2.1
  have k14 : xb_k h (ad 14) = 7 := hB.k 14 (by omega)
  have k11 : xb_k h (wia W i) = 11 := hiO.1.1
  have i14 : wia W i ≠ ad 14 := hB.n1 (by omega) hiO.1.2.1
  have m14 : md ≠ ad 14 := hB.n1 (by omega) hm.2.2.1
  have mid := mcnt_id (v := dvs d 1) (κ := (κ' : Int)) k
  unfold w_World_takeOver w_World_takeOver_L172 w_World_takeOver_L125 w_World_takeOver_L173 w_World_takeOver_L126
  refine ⟨hm.1.k, _, hm.1.row (k := 1) (by omega), hm.1.krow (by omega), md_at (c := 7) hm.1 (i := k) (j := 2) (by omega) rfl hx2 rfl (by omega) c5 (fun r5 e5 _ => ⟨_, hm.1.row (k := 1) (by omega), hm.1.krow (by omega), md_at (c := 7) hm.1 (i := k) (j := 1) (by omega) rfl hx2 rfl (by omega) c5 (fun r9 e9 _ => ?_)⟩)⟩
  have f5 : r5.toInt = mcnt (dvs d 1) κ' k := by omega
  have f9 : r9.toInt = κ' := by omega
  refine ⟨fun e => ⟨k14, ad 32, hB.r (14, 12, 32) (by decide), k11, ?_⟩, fun e => ⟨k11, k14, fun h28 e28 => ?_⟩, fun e => ⟨k11, k14, fun h41 e41 => ?_⟩, fun g0 g1 g2 => ⟨k14, ad 34, hB.r (14, 13, 34) (by decide), k11, ?_⟩⟩
  · rw [z_eq, f9] at e
    simp only [Int32.reduceToInt] at e
    have e0 : κ' = 0 := by omega
    subst e0
    have mid : mcnt (dvs d 1) 0 k ≤ k := mid
    have f5 : r5.toInt = mcnt (dvs d 1) 0 k := f5
    have c4 : mcnt (dvs d 1) 0 k < ni d 0 := c4
    have hκ : (dvs d 1 (7 * k + 1)).toInt = 0 := hκ
    refine iO_functionId hiO hno hx4 (hnum.1 rfl) (fun r15 f q1 q2 q3 _ => ⟨hB.k 32 (by omega), wr_add (r := 32) (by decide) hB hS.1.1 (by show _ < 20000; omega) hg (fun h17 q bc' bs' w1 w2 w3 w4 w5 w6 w7 w8 _ => ?_)⟩)
    have hR := lkR.add (r := 32) (.inl rfl) hB w1 w5 w6 w7
    have hfb : f < 8196 := by rcases q2 with q2 | q2 <;> omega
    have hs34 := w6 (ad 34) (hB.z 34 (by omega)) (hB.ne (by omega) (by omega) (by omega)) (hB.ne (by omega) (by omega) (by omega))
    have hWG : wG (va_up ad 33 q) h17 := by
      obtain ⟨-, n2', g2'⟩ := hW.2.2.2.2.2.2.2.1
      refine ⟨⟨mcnt (dvs d 1) 0 k + 1, ?_⟩, n2', ?_⟩
      · rw [xh_up, if_neg (by omega), xh_up, if_pos rfl]
        exact w2
      · rw [xh_up, if_neg (by omega), xh_up, if_neg (by omega)]
        exact g2'.fr hs34 w7
    have hW2 := hW.lk hB hR hWG
    have hm2 := hm.lk hB hR
    have hiO2 := (hW2.2.2.2.2.2.2.1.2.2.2 i hi).2
    refine iO_functionId hiO2 hno hx4 (hnum.1 rfl) (fun r20 f2 q4 q5 q6 _ => mo_typeOf hm2 f5 (by omega) (fun r22 e22 _ => ?_))
    obtain ⟨u1, u2, u3, -⟩ := hm2.fn (k := mcnt (dvs d 1) 0 k) (by omega)
    have a14 : va_up ad 33 q 14 = ad 14 := by rw [xh_up, if_neg (by omega)]
    have hfit := wI_fits (Qr := fun r24 h23 => xb_ext h17 h23 → (r24 = 0 ∨ r24 = 1) ∧ Qr r24 h23 bc' bs') hR.1 hW2.1 hW2.2.2.2.2.2.2.1 hm2 q4 q5 e22 u3 (fun r hr _ => ?_)
    · rw [a14] at hfit
      exact hfit
    · have ef : f2 = f := by
        rw [q6.2, q3.2]
        exact fnI_sm hiO (fun a ha ho => w6 a ha (hB.n1 (by omega) ho) (hB.n1 (by omega) ho))
      rcases hr with ⟨hr, hr3⟩ | ⟨hr, hr2⟩
      · refine ⟨.inl hr, hQ h17 _ _ r bc' bs' hR hW2 (.inl ⟨hr, fun v hv => ?_⟩) w8⟩
        obtain ⟨y1, y2⟩ := hv.1 rfl
        apply hr3
        rw [ef, q3.2, ← y1]
        exact y2
      · have s14' := w6 (ad 14) (hB.z 14 (by omega)) (hB.ne (by omega) (by omega) (by omega)) (hB.ne (by omega) (by omega) (by omega))
        have s35' := w6 (ad 35) (hB.z 35 (by omega)) (hB.ne (by omega) (by omega) (by omega)) (hB.ne (by omega) (by omega) (by omega))
        refine ⟨.inr hr, hQ h17 _ _ r bc' bs' hR hW2 (.inr ⟨hr, ?_, f, ⟨fun _ => ⟨q3.2, ?_⟩, fun h9 => by omega, fun h9 => by omega, fun h9 => by omega⟩, ⟨fun _ => ?_, fun h9 => by omega, fun h9 => by omega, fun h9 => by omega⟩, fun j hj => ?_, fun j _ => ?_, fun _ => ?_, fun _ => ?_, ?_⟩) w8⟩
        rotate_left
        · rw [← ef]
          exact hr2
        · show (xb_l h17 (va_up ad 33 q 33) _).toInt = f
          rw [xh_up, if_pos rfl, w4, Z_of32]
          exact q1
        · show xb_l h17 (va_up ad 33 q 33) j = _
          rw [xh_up, if_pos rfl]
          exact w3 j hj
        · show xb_l h17 (va_up ad 33 q 35) j = _
          rw [xh_up, if_neg (by omega), s35'.2.1]
        · show xb_r h17 (va_up ad 33 q 14) 14 = _
          rw [xh_up, if_neg (by omega), s14'.2.2]
        · show xb_r h17 (va_up ad 33 q 14) 15 = _
          rw [xh_up, if_neg (by omega), s14'.2.2]
        · show xb_i h17 (va_up ad 33 q 14) = _
          rw [xh_up, if_neg (by omega), s14'.1]
        refine hS.addF (f := f) hB hR w2 w3 ?_ q2 ?_ w6 hκ
        · rw [w4, Z_of32]
          exact q1
        · rw [q3.1, ← q6.1, hr2]
          rfl
  · rw [z_eq, f9] at e
    simp only [Int32.reduceToInt] at e
    have e1 : κ' = 1 := by omega
    subst e1
    have mid : mcnt (dvs d 1) 1 k ≤ k := mid
    have f5 : r5.toInt = mcnt (dvs d 1) 1 k := f5
    have c4 : mcnt (dvs d 1) 1 k < ni d 1 := c4
    have hκ : (dvs d 1 (7 * k + 1)).toInt = 1 := hκ
    have hR : lkR own ad own ad h h28 := by rw [e28]; exact lkR.P14 hB (.inl rfl)
    have hr14 : xb_r h28 (ad 14) 14 = xb_r h (wia W i) 6 := by rw [e28, xh_rP, if_pos rfl, xh_up, if_pos rfl]
    have hr15 : xb_r h28 (ad 14) 15 = xb_r h (ad 14) 15 := by rw [e28, xh_rP, if_pos rfl, xh_up, if_neg (by omega)]
    have hg2 : bg ad h28 rc rs bc bs := by rw [e28]; exact hg
    have hWG : wG ad h28 := by
      obtain ⟨⟨a1, a2⟩, b1, b2⟩ := hW.2.2.2.2.2.2.2.1
      exact ⟨⟨a1, a2.fr (by rw [e28]; exact xh_smP _ _ _ (hB.ne (by omega) (by omega) (by omega))) hR.2.2.2.1⟩, b1, b2.fr (by rw [e28]; exact xh_smP _ _ _ (hB.ne (by omega) (by omega) (by omega))) hR.2.2.2.1⟩
    have hW2 := hW.lk hB hR hWG
    have hm2 := hm.lk hB hR
    refine ⟨fun e29 => ⟨.inl rfl, hQ h28 _ _ 0 bc bs hR hW2 (.inl ⟨rfl, fun v hv => by have := (hv.2.1 rfl).1; rw [← hr14, e29] at this; cases this⟩) hg2⟩, fun b29 e29 => ?_⟩
    have hta := hiO.2.2.2.2.2.1.2 b29 (by rw [← hr14]; exact e29)
    have hta2 := hta.lk hB hR
    refine ⟨_, hm2.1.row (k := 3) (by omega), b29, e29, hta2.1, b29, e29, hta2.1, mo_isWithin hm2 (.inl rfl) f5 (by omega) (fun r36 hr36 _ => ⟨fun er => ⟨.inl rfl, hQ h28 _ _ 0 bc bs hR hW2 (.inl ⟨rfl, fun v hv => ?_⟩) hg2⟩, fun er => ⟨.inr rfl, hQ h28 _ _ 1 bc bs hR hW2 (.inr ⟨rfl, ?_, b29, ⟨fun h9 => by omega, fun _ => ⟨by rw [← hr14]; exact e29, ?_⟩, fun h9 => by omega, fun h9 => by omega⟩, ⟨fun h9 => by omega, fun h9 => by omega, fun _ => e29, fun h9 => by omega⟩, fun j _ => by rw [e28, xh_lP], fun j _ => by rw [e28, xh_lP], fun h9 => ?_, fun _ => by rw [hr15], by rw [e28, xh_iP]⟩) hg2⟩⟩)⟩
    · obtain ⟨y1, y2⟩ := hv.2.1 rfl
      rw [← hr14, e29] at y1
      rw [← Option.some.inj y1] at y2
      rcases hr36 with ⟨-, h9⟩ | ⟨h9, -⟩
      · rw [e28, xh_iP, xh_lP] at h9
        exact h9 y2
      · rw [er] at h9
        exact absurd h9 (by decide)
    rotate_left
    · rcases hr36 with ⟨h9, -⟩ | ⟨-, h9⟩
      · exact absurd h9 er
      · rw [e28, xh_iP, xh_lP] at h9
        exact h9
    · have := hm.2.1.2.2.2.1.2
      omega
    obtain ⟨⟨s1, s2⟩, ⟨s3, s4⟩, ⟨s5, s6⟩, s7, s8⟩ := hS
    have l28 : xb_l h28 = xb_l h := by rw [e28]; rfl
    unfold lkS fF fV
    rw [mcnt_n (κ := 0) (by omega), mcnt_n (κ := 3) (by omega), mcnt_n (κ := 2) (by omega), mcnt_s hκ, hr15, l28]
    refine ⟨⟨s1.fr (by rw [e28]; exact xh_smP _ _ _ (hB.ne (by omega) (by omega) (by omega))) hR.2.2.2.1, s2⟩, ⟨s3.fr (by rw [e28]; exact xh_smP _ _ _ (hB.ne (by omega) (by omega) (by omega))) hR.2.2.2.1, s4⟩, ⟨fun h9 => by omega, fun _ => ⟨b29, e29, hta2⟩⟩, s7, fun h9 => ?_⟩
    obtain ⟨ma, g1, g2⟩ := s8 h9
    exact ⟨ma, g1, g2.lk hB hR⟩
  · rw [z_eq, f9] at e
    simp only [Int32.reduceToInt] at e
    have e1 : κ' = 2 := by omega
    subst e1
    have mid : mcnt (dvs d 1) 2 k ≤ k := mid
    have f5 : r5.toInt = mcnt (dvs d 1) 2 k := f5
    have c4 : mcnt (dvs d 1) 2 k < ni d 2 := c4
    have hκ : (dvs d 1 (7 * k + 1)).toInt = 2 := hκ
    have hR : lkR own ad own ad h h41 := by rw [e41]; exact lkR.P14 hB (.inr rfl)
    have hr15 : xb_r h41 (ad 14) 15 = xb_r h (wia W i) 7 := by rw [e41, xh_rP, if_pos rfl, xh_up, if_pos rfl]
    have hr14 : xb_r h41 (ad 14) 14 = xb_r h (ad 14) 14 := by rw [e41, xh_rP, if_pos rfl, xh_up, if_neg (by omega)]
    have hg2 : bg ad h41 rc rs bc bs := by rw [e41]; exact hg
    have hWG : wG ad h41 := by
      obtain ⟨⟨a1, a2⟩, b1, b2⟩ := hW.2.2.2.2.2.2.2.1
      exact ⟨⟨a1, a2.fr (by rw [e41]; exact xh_smP _ _ _ (hB.ne (by omega) (by omega) (by omega))) hR.2.2.2.1⟩, b1, b2.fr (by rw [e41]; exact xh_smP _ _ _ (hB.ne (by omega) (by omega) (by omega))) hR.2.2.2.1⟩
    have hW2 := hW.lk hB hR hWG
    have hm2 := hm.lk hB hR
    refine ⟨fun e29 => ⟨.inl rfl, hQ h41 _ _ 0 bc bs hR hW2 (.inl ⟨rfl, fun v hv => by have := (hv.2.2.1 rfl).1; rw [← hr15, e29] at this; cases this⟩) hg2⟩, fun b29 e29 => ?_⟩
    have hta := hiO.2.2.2.2.2.2.2 b29 (by rw [← hr15]; exact e29)
    have hta2 := hta.lk hB hR
    refine ⟨_, hm2.1.row (k := 4) (by omega), b29, e29, hta2.1, b29, e29, hta2.1, mo_isWithin hm2 (.inr rfl) f5 (by omega) (fun r36 hr36 _ => ⟨fun er => ⟨.inl rfl, hQ h41 _ _ 0 bc bs hR hW2 (.inl ⟨rfl, fun v hv => ?_⟩) hg2⟩, fun er => ⟨.inr rfl, hQ h41 _ _ 1 bc bs hR hW2 (.inr ⟨rfl, ?_, b29, ⟨fun h9 => by omega, fun h9 => by omega, fun _ => ⟨by rw [← hr15]; exact e29, ?_⟩, fun h9 => by omega⟩, ⟨fun h9 => by omega, fun h9 => by omega, fun h9 => by omega, fun _ => e29⟩, fun j _ => by rw [e41, xh_lP], fun j _ => by rw [e41, xh_lP], fun _ => by rw [hr14], fun h9 => ?_, by rw [e41, xh_iP]⟩) hg2⟩⟩)⟩
    · obtain ⟨y1, y2⟩ := hv.2.2.1 rfl
      rw [← hr15, e29] at y1
      rw [← Option.some.inj y1] at y2
      rcases hr36 with ⟨-, h9⟩ | ⟨h9, -⟩
      · rw [e41, xh_iP, xh_lP] at h9
        exact h9 y2
      · rw [er] at h9
        exact absurd h9 (by decide)
    rotate_left
    · rcases hr36 with ⟨h9, -⟩ | ⟨-, h9⟩
      · exact absurd h9 er
      · rw [e41, xh_iP, xh_lP] at h9
        exact h9
    · have := hm.2.1.2.2.2.2.1.2.1
      omega
    obtain ⟨⟨s1, s2⟩, ⟨s3, s4⟩, ⟨s5, s6⟩, s7, s8⟩ := hS
    have l28 : xb_l h41 = xb_l h := by rw [e41]; rfl
    unfold lkS fF fV
    rw [mcnt_n (κ := 0) (by omega), mcnt_n (κ := 3) (by omega), mcnt_n (κ := 1) (by omega), mcnt_s hκ, hr14, l28]
    refine ⟨⟨s1.fr (by rw [e41]; exact xh_smP _ _ _ (hB.ne (by omega) (by omega) (by omega))) hR.2.2.2.1, s2⟩, ⟨s3.fr (by rw [e41]; exact xh_smP _ _ _ (hB.ne (by omega) (by omega) (by omega))) hR.2.2.2.1, s4⟩, ⟨s5, fun h9 => ?_⟩, fun h9 => by omega, fun _ => ⟨b29, e29, hta2⟩⟩
    obtain ⟨ta, g1, g2⟩ := s6 h9
    exact ⟨ta, g1, g2.lk hB hR⟩
  · rw [z_eq, f9] at g0 g1 g2
    simp only [Int32.reduceToInt] at g0 g1 g2
    have e0 : κ' = 3 := by omega
    subst e0
    have mid : mcnt (dvs d 1) 3 k ≤ k := mid
    have f5 : r5.toInt = mcnt (dvs d 1) 3 k := f5
    have c4 : mcnt (dvs d 1) 3 k < ni d 3 := c4
    have hκ : (dvs d 1 (7 * k + 1)).toInt = 3 := hκ
    refine iO_variableId hiO hnv hx4 (hnum.2 rfl) (fun r15 v q1 q2 ⟨q3, q3v⟩ _ => ⟨hB.k 34 (by omega), wr_add (r := 34) (by decide) hB hS.2.1.1 (by show _ < 20000; omega) hg (fun h17 q bc' bs' w1 w2 w3 w4 w5 w6 w7 w8 _ => ?_)⟩)
    have hR := lkR.add (r := 34) (.inr rfl) hB w1 w5 w6 w7
    have hs32 := w6 (ad 32) (hB.z 32 (by omega)) (hB.ne (by omega) (by omega) (by omega)) (hB.ne (by omega) (by omega) (by omega))
    have hWG : wG (va_up ad 35 q) h17 := by
      obtain ⟨⟨n2', g2'⟩, -⟩ := hW.2.2.2.2.2.2.2.1
      refine ⟨⟨n2', ?_⟩, mcnt (dvs d 1) 3 k + 1, ?_⟩
      · rw [xh_up, if_neg (by omega), xh_up, if_neg (by omega)]
        exact g2'.fr hs32 w7
      · rw [xh_up, if_neg (by omega), xh_up, if_pos rfl]
        exact w2
    have hW2 := hW.lk hB hR hWG
    have hm2 := hm.lk hB hR
    have hiO2 := (hW2.2.2.2.2.2.2.1.2.2.2 i hi).2
    refine ⟨_, hiO2.1.2.2.2.1, mo_sameVariable hm2 hiO2.1.2.2.2.2 f5 hx4 (by omega) (hnum.2 rfl) (fun r hr _ => ?_)⟩
    rcases hr with ⟨hr, hr3⟩ | ⟨hr, hr2, hr4⟩
    · exact ⟨.inl hr, hQ h17 _ _ r bc' bs' hR hW2 (.inl ⟨hr, fun v hv => hr3 (hv.2.2.2 rfl).2⟩) w8⟩
    · have s14' := w6 (ad 14) (hB.z 14 (by omega)) (hB.ne (by omega) (by omega) (by omega)) (hB.ne (by omega) (by omega) (by omega))
      have s33' := w6 (ad 33) (hB.z 33 (by omega)) (hB.ne (by omega) (by omega) (by omega)) (hB.ne (by omega) (by omega) (by omega))
      refine ⟨.inr hr, hQ h17 _ _ r bc' bs' hR hW2 (.inr ⟨hr, ?_, v, ⟨fun h9 => by omega, fun h9 => by omega, fun h9 => by omega, fun _ => ⟨q3v, hr2, hr4⟩⟩, ⟨fun h9 => by omega, fun _ => ?_, fun h9 => by omega, fun h9 => by omega⟩, fun j _ => ?_, fun j hj => ?_, fun _ => ?_, fun _ => ?_, ?_⟩) w8⟩
      rotate_left
      · show (xb_l h17 (va_up ad 35 q 35) _).toInt = v
        rw [xh_up, if_pos rfl, w4, Z_of32]
        exact q1
      · show xb_l h17 (va_up ad 35 q 33) j = _
        rw [xh_up, if_neg (by omega), s33'.2.1]
      · show xb_l h17 (va_up ad 35 q 35) j = _
        rw [xh_up, if_pos rfl]
        exact w3 j hj
      · show xb_r h17 (va_up ad 35 q 14) 14 = _
        rw [xh_up, if_neg (by omega), s14'.2.2]
      · show xb_r h17 (va_up ad 35 q 14) 15 = _
        rw [xh_up, if_neg (by omega), s14'.2.2]
      · show xb_i h17 (va_up ad 35 q 14) = _
        rw [xh_up, if_neg (by omega), s14'.1]
      refine hS.addV (v := v) hB hR w2 w3 ?_ q2 ?_ w6 hκ
      · rw [w4, Z_of32]
        exact q1
      · rw [q3, ← hr2]
end W5
