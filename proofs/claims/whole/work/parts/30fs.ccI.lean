-- equality: the class's load, exact
noncomputable def ldK (cA : Nat → Int32) (b N : Nat) (S : Sm) : Except (Nat × Nat) Sm := match ckM (zk b N cA S) with
  | some Fl => .error Fl
  | none => .ok S
/-- what loading the N bytes from b on comes to: the first fault, or the module -/
noncomputable def ldO (cA : Nat → Int32) (b N : Nat) : Except (Nat × Nat) Sm := (pMod cA b (b + N)).bind (ldK cA b N)
/-- a module of the class, by the bytes that it was loaded from -/
def ldR (cA : Nat → Int32) (b N : Nat) (d : mD) (ω : Nat → Int32) (S : Sm) : Prop := ∃ (vs0 : Nat → Nat → Int64) (ν0 : Nat → Int32), eR cA ν0 b N S (dn d) vs0 (div_ d) (ω 15) (ω 16) ∧ (∀ k, k ≠ 9 → dvs d k = vs0 k) ∧ (∀ j, (∀ i, i < dn d 9 / 5 → j ≠ 5 * i + 4) → dvs d 9 j = vs0 9 j) ∧ (∀ i, i < dn d 9 / 5 → bdF (zk b N cA S) i = .ok (dvs d 9 (5 * i + 4)).toInt) ∧ (∃ en, md_J N (dcb d) en (dn d) vs0 ν0 (div_ d) N N ∧ (∀ j : Nat, (∀ i, i < dn d 9 / 5 → (j : Int) < (vs0 9 (5 * i)).toInt ∨ en 9 i ≤ j) → dnu d j = ν0 j) ∧ ∀ i, i < dn d 9 / 5 → bd_k N en (dn d) (dvs d) (dcb d) ν0 (dnu d) (div_ d) i) ∧ cx_ cA (dcb d) b N ∧ dN d = N ∧ S.1 10 = S.1 3
section LDX
variable {own own' ad : Nat → Nat} {h h' : xb_H} {cA : Nat → Int32} {b0 : Nat}
set_option maxHeartbeats 4000000 in
theorem sz_load (F : (Nat → Int32) → (Nat → Int32) → Nat → Nat → Nat → (Nat → Int32) → ctG → Prop) {mc ts bc bs rc rs : Nat} {Qr : Int32 → xb_H → Nat → Nat → Prop} {Qt : String → xb_H → Nat → Nat → Prop} (hB : cB own ad h) (hmc : (xb_i h (ad 0) 3).toInt = mc) (hmc2 : mc ≤ 64) (nma : xb_n h (ad 2) = 64) (hts : (xb_i h (ad 0) 1).toInt = ts) (hts2 : ts ≤ xb_n h (ad 1)) (ntp : xb_n h (ad 1) ≤ 65536) (hby : ∀ j, -128 ≤ (xb_i h (ad 1) j).toInt ∧ (xb_i h (ad 1) j).toInt ≤ 127) (n4 : xb_n h (ad 4) = 200) (n6 : xb_n h (ad 6) ≤ 1000000)
    (n7 : ∀ k, k < 7 → xb_n h (ad (k + 7)) = (if k = 0 then 1000 else 201)) (hc : rc + 12 * ts + 180 ≤ bc) (hs : rs + 99 * ts + 3000 ≤ bs) (hcA : ∀ j, j < ts → xb_i h (ad 1) j = cA (b0 + j)) (hcAr : ∀ j, -128 ≤ (cA j).toInt ∧ (cA j).toInt ≤ 127)
    (hQ1 : ∀ (h' : xb_H) (own' ad' : Nat → Nat) (md : Nat) (d : mD) (v : Int32) (bc' bs' : Nat), ldP own ad own' ad' h h' → mc < 64 → mo own' h' md d → xb_r h' (ad 2) = va_up (xb_r h (ad 2)) mc (some md) → (xb_i h' (ad 0) 3).toInt = (mc + 1 : Nat) → v.toInt = mc → rc ≤ bc' → rs ≤ bs' → ∀ S' : Sm, ldO cA b0 ts = .ok S' → ldR cA b0 ts d (xb_i h' md) S' → dX d = F (dcb d) (dnu d) → xb_i h' (ad 0) 9 = 0 → xb_i h' (ad 0) 10 = 0 → Qr v h' bc' bs')
    (hQ2 : ∀ (h' : xb_H) (own' ad' : Nat → Nat) (bc' bs' : Nat), mc < 64 → ldP own ad own' ad' h h' → xb_r h' (ad 2) = xb_r h (ad 2) → xb_i h' (ad 0) 3 = xb_i h (ad 0) 3 → rc ≤ bc' → rs ≤ bs' → ∀ Fl : Nat × Nat, ldO cA b0 ts = .error Fl → (xb_i h' (ad 0) 9).toInt = Fl.1 → (xb_i h' (ad 0) 10).toInt + b0 = Fl.2 → Qr (-1) h' bc' bs')
    (hQt : mc = 64 → Qt "java/lang/IllegalStateException" h (bc - 1) (bs - 6)) : w_H_load (ad 0) h bc bs Qr Qt := by
  have kx : xb_k h (ad 0) = 1 := hB.k 0 (by omega)
  have k1 : xb_k h (ad 1) = 100 := hB.k 1 (by omega)
  have k2 : xb_k h (ad 2) = 104 := hB.k 2 (by omega)
  have k3 : xb_k h (ad 3) = 4 := hB.k 3 (by omega)
  have k4 : xb_k h (ad 4) = 102 := hB.k 4 (by omega)
  have k5 : xb_k h (ad 5) = 5 := hB.k 5 (by omega)
  have k6 : xb_k h (ad 6) = 100 := hB.k 6 (by omega)
  have kk : ∀ k, k < 7 → xb_k h (ad (k + 7)) = (if k = 0 then 100 else if k = 6 then 101 else 102) := fun k hk => by
    rw [hB.k (k + 7) (by omega)]
    have : ∀ k, k < 7 → kdl (k + 7) = (if k = 0 then 100 else if k = 6 then 101 else 102) := by decide
    exact this k hk
  have r5k : ∀ k, k < 7 → xb_r h (ad 5) (if k = 0 then 6 else k + 9) = some (ad (k + 7)) := fun k hk => by
    have : ∀ k, k < 7 → (5, (if k = 0 then 6 else k + 9), k + 7) ∈ cRl := by decide
    exact hB.r _ (this k hk)
  have r00 : xb_r h (ad 0) 0 = some (ad 1) := hB.r (0, 0, 1) (by decide)
  have r02 : xb_r h (ad 0) 2 = some (ad 2) := hB.r (0, 2, 2) (by decide)
  have r04 : xb_r h (ad 0) 4 = some (ad 3) := hB.r (0, 4, 3) (by decide)
  have r05 : xb_r h (ad 0) 5 = some (ad 5) := hB.r (0, 5, 5) (by decide)
  have r35 : xb_r h (ad 3) 5 = some (ad 4) := hB.r (3, 5, 4) (by decide)
  have r53 : xb_r h (ad 5) 3 = some (ad 6) := hB.r (5, 3, 6) (by decide)
  have nx : ∀ i, i < 41 → i ≠ 0 → ad i ≠ ad 0 := fun i hi h9 => hB.ne hi (by omega) h9
  unfold w_H_load w_H_refuseModuleBeyondLimit
  refine ⟨kx, kx, fun e64 => ?_, fun e64 => ⟨by omega, by omega, hQt (by rw [z_eq, hmc] at e64; simp only [Int32.reduceToInt] at e64; omega)⟩⟩
  have hm64 : mc < 64 := by
    rw [z_eq, hmc] at e64
    simp only [Int32.reduceToInt] at e64
    omega
  refine fun _ => ⟨by omega, by omega, fun md zmd h5 e5 => ⟨ad 1, ?_, ?_⟩⟩
  · rw [e5, xh_rN, if_neg (fun e => by rw [← e, kx] at zmd; cases zmd)]
    exact r00
  have nm : ∀ a, xb_k h a ≠ 0 → a ≠ md := fun a ha e => ha (e ▸ zmd)
  have x5 : xb_i h5 (ad 0) 1 = xb_i h (ad 0) 1 := by rw [e5, xh_iN, if_neg (nm _ (hB.z 0 (by omega)))]
  rw [x5]
  have k15 : xb_k h5 (ad 1) = 100 := by rw [e5, xh_kN, if_neg (nm _ (hB.z 1 (by omega)))]; exact k1
  have n15 : xb_n h5 (ad 1) = xb_n h (ad 1) := by rw [e5, xh_nN, if_neg (nm _ (hB.z 1 (by omega)))]
  have i15 : xb_i h5 (ad 1) = xb_i h (ad 1) := by rw [e5, xh_iN, if_neg (nm _ (hB.z 1 (by omega)))]
  have ex5 : xb_ext h h5 := by rw [e5]; exact xh_exN h _ _ zmd
  have sm5 : ∀ a, xb_k h a ≠ 0 → xh_sm h h5 a := fun a ha => by rw [e5]; exact xh_smN h _ _ (nm a ha)
  refine sp_copyOf0b k15 (by omega) (by omega) (by omega) (by omega) (by omega) (fun cd zcd5 cb hcb1 hcb2 => ?_)
  rw [i15] at hcb2
  have hcb : ∀ j, -128 ≤ (cb j).toInt ∧ (cb j).toInt ≤ 127 := hcb2 (fun v => -128 ≤ v.toInt ∧ v.toInt ≤ 127) (by decide) hby
  have hCx : cx_ cA cb b0 ts := ⟨fun j hj => (hcb1 j (by rw [n15]; omega) (by omega)).trans (by rw [i15]; exact hcA j hj), hcAr, hcb⟩
  have cmd : md ≠ cd := fun e => by rw [← e, e5, xh_kN, if_pos rfl] at zcd5; cases zcd5
  have zcd : xb_k h cd = 0 := by rw [e5, xh_kN, if_neg cmd.symm] at zcd5; exact zcd5
  obtain ⟨h8, e8⟩ : ∃ h8, h8 = xb_Ia (xb_new h5 cd 100 (xb_i h (ad 0) 1).toInt.toNat) cd cb := ⟨_, rfl⟩
  rw [← e8]
  have ets : (xb_i h (ad 0) 1).toInt.toNat = ts := by omega
  rw [ets] at e8 ⊢
  have ex8 : xb_ext h h8 := by rw [e8]; exact ex5.tr (xh_exN h5 _ _ zcd5)
  have sm8 : ∀ a, xb_k h a ≠ 0 → xh_sm h h8 a := fun a ha => by
    have hac : a ≠ cd := fun e => ha (e ▸ zcd)
    rw [e8]
    exact ((sm5 a ha).tr (xh_smN h5 _ _ hac)).tr (xh_smIa _ _ hac)
  have km8 : xb_k h8 md = 3 := by rw [e8, xh_kIa, xh_kN, if_neg cmd, e5, xh_kN, if_pos rfl]
  have kc8 : xb_k h8 cd = 100 := by rw [e8, xh_kIa, xh_kN, if_pos rfl]
  have nc8 : xb_n h8 cd = ts := by rw [e8, xh_nIa, xh_nN, if_pos rfl]
  have ic8 : xb_i h8 cd = cb := by rw [e8, xh_iIa, if_pos rfl]
  clear e8
  refine fun _ => sp_StackModule_init km8 kc8 nc8 (by omega) (by omega) (by omega) (fun h10 rw it im nt g1 g2 g3 g4 g5 g6 g7 g8 g9 g10 g11 g12 _ h12 e12 h13 e13 h14 e14 => ?_)
  have ex10 : xb_ext h h10 := ex8.tr g12
  have z8 : ∀ a, xb_k h8 a = 0 → xb_k h a = 0 := fun a ha => by
    cases e : xb_k h a with
    | zero => rfl
    | succ c => rw [ex8.k e] at ha; cases ha
  have sm10 : ∀ a, xb_k h a ≠ 0 → xh_sm h h10 a := fun a ha => (sm8 a ha).tr (g11 a (fun e => ha (z8 a e)) (nm a ha))
  -- the heap before, as the host's own numbers are now
  obtain ⟨h0, eh0⟩ : ∃ h0, h0 = xb_I (xb_I (xb_I h (ad 0) 1 0) (ad 0) 9 0) (ad 0) 10 0 := ⟨_, rfl⟩
  have kh0 : xb_k h0 = xb_k h := by rw [eh0]; rfl
  have nh0 : xb_n h0 = xb_n h := by rw [eh0]; rfl
  have rh0 : xb_r h0 = xb_r h := by rw [eh0]; rfl
  have lh0 : xb_l h0 = xb_l h := by rw [eh0]; rfl
  have ih0 : ∀ a, a ≠ ad 0 → xb_i h0 a = xb_i h a := fun a ha => by rw [eh0, xh_iI, if_neg ha, xh_iI, if_neg ha, xh_iI, if_neg ha]
  have ix0 : xb_i h0 (ad 0) = va_up (va_up (va_up (xb_i h (ad 0)) 1 0) 9 0) 10 0 := by rw [eh0, xh_iI, if_pos rfl, xh_iI, if_pos rfl, xh_iI, if_pos rfl]
  have k14 : xb_k h14 = xb_k h10 := by rw [e14, e13, e12]; rfl
  have n14 : xb_n h14 = xb_n h10 := by rw [e14, e13, e12]; rfl
  have r14 : xb_r h14 = xb_r h10 := by rw [e14, e13, e12]; rfl
  have l14 : xb_l h14 = xb_l h10 := by rw [e14, e13, e12]; rfl
  have i14 : ∀ a, a ≠ ad 0 → xb_i h14 a = xb_i h10 a := fun a ha => by rw [e14, xh_iI, if_neg ha, e13, xh_iI, if_neg ha, e12, xh_iI, if_neg ha]
  have ix14 : xb_i h14 (ad 0) = va_up (va_up (va_up (xb_i h10 (ad 0)) 1 0) 9 0) 10 0 := by rw [e14, xh_iI, if_pos rfl, e13, xh_iI, if_pos rfl, e12, xh_iI, if_pos rfl]
  have ex0 : xb_ext h0 h14 := fun a ha => by
    rw [kh0] at ha
    rw [k14, n14, kh0, nh0]
    exact ex10 a ha
  have sm0 : ∀ a, xb_k h0 a ≠ 0 → xh_sm h0 h14 a := fun a ha => by
    rw [kh0] at ha
    have s := sm10 a ha
    by_cases e : a = ad 0
    · subst e
      exact ⟨by rw [ix14, ix0, s.1], by rw [l14, lh0]; exact s.2.1, by rw [r14, rh0]; exact s.2.2⟩
    · exact ⟨by rw [i14 a e, ih0 a e]; exact s.1, by rw [l14, lh0]; exact s.2.1, by rw [r14, rh0]; exact s.2.2⟩
  clear e12 e13 e14 eh0
  have hX14 : rd_X h0 h14 (ad 3) (ad 4) md := by
    refine ⟨ex0, fun a ha _ _ => sm0 a ha, ?_, by rw [k14]; exact g10, by rw [kh0]; exact k3, by rw [kh0]; exact k4, by rw [nh0]; exact n4, by rw [kh0]; exact zmd⟩
    rw [(sm0 (ad 3) (by rw [kh0]; exact hB.z 3 (by omega))).2.2, rh0]
    exact r35
  have nim : im ≠ ad 0 := fun e => by have := z8 _ g4.2.2.2.1; rw [e, kx] at this; cases this
  have nnt : nt ≠ ad 0 := fun e => by have := z8 _ g5.2.2.2.1; rw [e, kx] at this; cases this
  have nmd : md ≠ ad 0 := fun e => (nm _ (hB.z 0 (by omega))) e.symm
  have ncd : cd ≠ ad 0 := fun e => by rw [e, kx] at zcd; cases zcd
  have scd : xh_sm h8 h10 cd := g11 cd (by rw [kc8]; omega) (fun e => cmd e.symm)
  refine ⟨ad 3, by rw [r14, (sm10 (ad 0) (hB.z 0 (by omega))).2.2]; exact r04, by rw [k14]; exact ex10.k (c := 3) k3, ?_⟩
  -- the end when something was refused
  have fin : ∀ (hE : xb_H) (bcE bsE o : Nat) (ax : Nat), xb_ext h0 hE → (∀ a, xb_k h0 a ≠ 0 → ¬ ldS ad a → xh_sm h0 hE a) → xb_k hE md = 3 → xb_r hE (ad 3) 5 = some (ad 4) → xb_r hE (ad 5) 3 = some o → xb_k hE o = 100 → (o = ad 6 ∨ xb_k h o = 0) → xb_n hE o ≤ 1000000 → (∀ k, k < 7 → xb_r hE (ad 5) (if k = 0 then 6 else k + 9) = some (ad (k + 7))) → rc ≤ bcE → rs ≤ bsE → (∃ Fl : Nat × Nat, ldO cA b0 ts = .error Fl ∧ (xb_i hE md 17).toInt = Fl.1 ∧ (xb_i hE md 18).toInt + b0 = Fl.2) → w_H_load_L57 Qr Qt (ad 0) md ax hE bcE bsE := by
    intro hE bcE bsE o ax f1 f2 f3 f4 f5 f6 f7 f8 f9 f10 f11 ⟨Fl, fl1, fl2, fl3⟩
    have nS0 : ¬ ldS ad (ad 0) := fun h9 => by
      rcases h9 with e | e | e | e | ⟨k, hk, e⟩
      · exact nx 3 (by omega) (by omega) e.symm
      · exact nx 4 (by omega) (by omega) e.symm
      · exact nx 5 (by omega) (by omega) e.symm
      · exact nx 6 (by omega) (by omega) e.symm
      · exact nx (k + 7) (by omega) (by omega) e.symm
    have nS2 : ¬ ldS ad (ad 2) := fun h9 => by
      rcases h9 with e | e | e | e | ⟨k, hk, e⟩
      · exact hB.ne (i := 2) (j := 3) (by omega) (by omega) (by omega) e
      · exact hB.ne (i := 2) (j := 4) (by omega) (by omega) (by omega) e
      · exact hB.ne (i := 2) (j := 5) (by omega) (by omega) (by omega) e
      · exact hB.ne (i := 2) (j := 6) (by omega) (by omega) (by omega) e
      · exact hB.ne (i := 2) (j := k + 7) (by omega) (by omega) (by omega) e
    have sx := f2 (ad 0) (by rw [kh0]; exact hB.z 0 (by omega)) nS0
    have s2 := f2 (ad 2) (by rw [kh0]; exact hB.z 2 (by omega)) nS2
    unfold w_H_load_L57
    refine ⟨f3, f1.k (c := 0) (by rw [kh0]; exact kx), fun h3 e3 h4 e4 => ?_⟩
    have k4' : xb_k h4 = xb_k hE := by rw [e4, e3]; rfl
    have n4' : xb_n h4 = xb_n hE := by rw [e4, e3]; rfl
    have r4' : xb_r h4 = xb_r hE := by rw [e4, e3]; rfl
    have l4' : xb_l h4 = xb_l hE := by rw [e4, e3]; rfl
    have i4' : ∀ a, a ≠ ad 0 → xb_i h4 a = xb_i hE a := fun a ha => by rw [e4, xh_iI, if_neg ha, e3, xh_iI, if_neg ha]
    have ix4 : ∀ j, j ≠ 9 → j ≠ 10 → xb_i h4 (ad 0) j = xb_i hE (ad 0) j := fun j j1 j2 => by rw [e4, xh_iI, if_pos rfl, xh_up, if_neg j2, e3, xh_iI, if_pos rfl, xh_up, if_neg j1]
    have exE : xb_ext h h4 := fun a ha => by
      have := f1 a (by rw [kh0]; exact ha)
      rw [k4', n4', this.1, this.2, kh0, nh0]
      exact ⟨rfl, rfl⟩
    refine hQ2 h4 (fun a => if xb_k h a = 0 then (if a = o then 8 else 1) else own a) (fun k => if k = 6 then o else ad k) bcE bsE hm64 ⟨?_, fun k hk => if_neg hk, fun a ha => if_neg ha, exE, fun a ha hk => ?_, ?_, ?_⟩ ?_ ?_ f10 f11 Fl fl1 ?_ ?_
    · refine ld_cB hB exE (fun a ha hk => ?_) (by rw [r4']; exact f4) (by rw [r4']; exact f5) (by rw [k4']; exact f6) f7 (fun k hk => by rw [r4']; exact f9 k hk)
      have hnS : ¬ ldS ad a := fun h9 => by
        rcases h9 with e | e | e | e | ⟨k, hk9, e⟩
        · exact hk 3 (by omega) (by omega) e
        · exact hk 4 (by omega) (by omega) e
        · exact hk 5 (by omega) (by omega) e
        · exact hk 6 (by omega) (by omega) e
        · exact hk (k + 7) (by omega) (by omega) e
      rw [r4', (f2 a (by rw [kh0]; exact ha) hnS).2.2, rh0]
    · have hnS : ¬ ldS ad a := fun h9 => by
        rcases h9 with e | e | e | e | ⟨k, hk9, e⟩
        · exact hk 3 (by omega) (by omega) e
        · exact hk 4 (by omega) (by omega) e
        · exact hk 5 (by omega) (by omega) e
        · exact hk 6 (by omega) (by omega) e
        · exact hk (k + 7) (by omega) (by omega) e
      have ha0 : a ≠ ad 0 := hk 0 (by omega) (by omega)
      have s := f2 a (by rw [kh0]; exact ha) hnS
      exact ⟨by rw [i4' a ha0, s.1, ih0 a ha0], by rw [l4', s.2.1, lh0], by rw [r4', s.2.2, rh0]⟩
    · rw [ix4 1 (by omega) (by omega), sx.1, ix0, xh_up, if_neg (by omega), xh_up, if_neg (by omega), xh_up, if_pos rfl]
      rfl
    · simp only [if_true]
      rw [n4']
      exact f8
    · rw [r4', s2.2.2, rh0]
    · rw [ix4 3 (by omega) (by omega), sx.1, ix0, xh_up, if_neg (by omega), xh_up, if_neg (by omega), xh_up, if_neg (by omega)]
    · rw [e4, xh_iI, if_pos rfl, xh_up, if_neg (by omega), e3, xh_iI, if_pos rfl, xh_up, if_pos rfl]
      exact fl2
    · rw [e4, xh_iI, if_pos rfl, xh_up, if_pos rfl, e3, xh_iI, if_neg nmd]
      exact fl3
  have zz : ∀ a, xb_k h8 a = 0 → xb_k h0 a = 0 := fun a ha => by rw [kh0]; exact z8 a ha
  refine gy_all (R := ldO cA b0 ts) (KS := ldK cA b0 ts) (b := b0) (cA := cA) (N := ts) (rc := rc + 3) (rs := rs + ts + 20) (rw := rw) (it := it) (im := im) (nt := nt) (cd := cd) (cb := cb) (fun hE bcE bsE hXE c1 c2 hFl _ ax => ⟨rfl, ?_⟩) hX14 hCx rfl (by omega) (fun k hk => ?_) g2 g3 ⟨?_, ?_, ?_, zz _ g4.2.2.2.1, ?_⟩ ⟨?_, ?_, ?_, zz _ g5.2.2.2.1, ?_⟩ g6 ⟨?_, ?_, ?_, by rw [kh0]; exact zcd, ?_⟩ ⟨?_, ?_⟩ (by omega) (by omega) (fun h17 it' n' vs' ν' iv' q bc' bs' S' ω' ⟨hG, hom⟩ hDD hER hS10 hRK => ?_)
  · obtain ⟨f1, f2, f3, f4, -⟩ := hXE
    have c53 : ad 5 ≠ ad 3 := hB.ne (by omega) (by omega) (by omega)
    have c54 : ad 5 ≠ ad 4 := hB.ne (by omega) (by omega) (by omega)
    have s5 := f2 (ad 5) (by rw [kh0]; exact hB.z 5 (by omega)) c53 c54
    refine fin hE bcE bsE (ad 6) ax f1 (fun a ha hs => f2 a ha (fun e => hs (.inl e)) (fun e => hs (.inr (.inl e)))) f4 f3 (by rw [s5.2.2, rh0]; exact r53) (f1.k (c := 99) (by rw [kh0]; exact k6)) (.inl rfl) (by rw [f1.n (c := 99) (by rw [kh0]; exact k6), nh0]; exact n6) (fun k hk => by rw [s5.2.2, rh0]; exact r5k k hk) (by omega) (by omega) hFl
  · obtain ⟨b1, b2, b3, b4, b5⟩ := g1 k hk
    have nk : rw k ≠ ad 0 := fun e => by have := b2.1; rw [e, ex10.k (c := 0) kx] at this; cases this
    obtain ⟨c1, c2, c3, c4, c5, c6, c7, c8⟩ := b2
    exact ⟨by rw [r14]; exact b1, ⟨by rw [k14]; exact c1, by rw [i14 _ nk]; exact c2, by rw [i14 _ nk]; exact c3, by rw [r14]; exact c4, by rw [k14]; exact c5, Nat.zero_le _, by rw [n14]; exact c7, by rw [n14]; exact c8⟩, by rw [n14]; exact b3, zz _ b4, zz _ b5⟩
  · rw [r14]; exact g4.1
  · rw [k14]; exact g4.2.1
  · rw [n14]; exact g4.2.2.1
  · rw [i14 _ nim]; exact g4.2.2.2.2
  · rw [r14]; exact g5.1
  · rw [k14]; exact g5.2.1
  · rw [n14]; exact g5.2.2.1
  · rw [i14 _ nnt]; exact g5.2.2.2.2
  · rw [r14]; exact g7
  · rw [k14]; exact g12.k (c := 99) kc8
  · rw [n14, g12.n (c := 99) kc8]; exact nc8
  · rw [i14 _ ncd, scd.1]; exact ic8
  · rw [i14 _ nmd]; exact g8
  · rw [i14 _ nmd]; exact g9
  -- it was read: the check
  obtain ⟨G1, G2, G3, G4, G5, G6, ⟨G7a, G7b, G7c, G7d, G7e⟩, ⟨G8a, G8b⟩, ⟨D1, D2, D3, D4, D5, D6⟩, G9, G10, G11⟩ := id hG
  have cB5 := hG.c
  have bB5 := hG.b
  have hts3 : ts ≤ 65536 := by omega
  have hts4 : (ts + 1) * 1 ≤ 536870912 := by omega
  have hts5 : ts + 1 ≤ bs' := by omega
  obtain ⟨f1, f2, f3, f4, -⟩ := id G1
  have c53 : ad 5 ≠ ad 3 := hB.ne (by omega) (by omega) (by omega)
  have c54 : ad 5 ≠ ad 4 := hB.ne (by omega) (by omega) (by omega)
  have c03 : ad 0 ≠ ad 3 := hB.ne (by omega) (by omega) (by omega)
  have c04 : ad 0 ≠ ad 4 := hB.ne (by omega) (by omega) (by omega)
  have s5 := f2 (ad 5) (by rw [kh0]; exact hB.z 5 (by omega)) c53 c54
  have sx := f2 (ad 0) (by rw [kh0]; exact hB.z 0 (by omega)) c03 c04
  have k517 : xb_k h17 (ad 5) = 5 := f1.k (c := 4) (by rw [kh0]; exact k5)
  have k617 : xb_k h17 (ad 6) = 100 := f1.k (c := 99) (by rw [kh0]; exact k6)
  have n617 : xb_n h17 (ad 6) ≤ 1000000 := by rw [f1.n (c := 99) (by rw [kh0]; exact k6), nh0]; exact n6
  have kc17 : xb_k h17 cd = 100 := hG.cdr.2.1
  have nc17 : xb_n h17 cd = ts := hG.cdr.2.2
  have km5 : md ≠ ad 5 := fun e => by rw [e, k517] at f4; cases f4
  have hX17 : ck_X (ldS ad) h0 h17 md (ad 3) (ad 4) (ad 5) (fun k => ad (k + 7)) := by
    refine ⟨f1, fun a ha hs => f2 a ha (fun e => hs (.inl e)) (fun e => hs (.inr (.inl e))), f4, by rw [kh0]; exact zmd, ⟨f1.k (c := 3) (by rw [kh0]; exact k3), f3⟩, k517, ⟨ad 6, by rw [s5.2.2, rh0]; exact r53, k617, .inl (.inr (.inr (.inr (.inl rfl)))), hB.ne (by omega) (by omega) (by omega), n617⟩, fun k hk => ⟨by rw [s5.2.2, rh0]; exact r5k k hk, ?_, ?_, .inr (.inr (.inr (.inr ⟨k, hk, rfl⟩)))⟩⟩
    · have e := kk k hk
      have z := hB.z (k + 7) (by omega)
      rw [(f1 _ (by rw [kh0]; exact z)).1, kh0]
      exact e
    · have z := hB.z (k + 7) (by omega)
      rw [(f1 _ (by rw [kh0]; exact z)).2, nh0]
      exact n7 k hk
  have hM17 : md_M h17 md cd nt im ts rw it' n' vs' cb ν' iv' := ⟨⟨f4, G10, kc17, nc17, G8a⟩, ⟨G11, G3.2.1, G3.2.2.1, G6⟩, fun k hk => ⟨(G4.1 k hk).1, (G4.1 k hk).2.1, (G4.1 k hk).2.2.1⟩, ⟨G7a, G7b, G7c, G7e⟩, by omega⟩
  refine fun _ => ⟨ad 5, by rw [sx.2.2, rh0]; exact r05, k517, ?_⟩
  have nS0 : ¬ ldS ad (ad 0) := fun h9 => by
    rcases h9 with e | e | e | e | ⟨k, hk, e⟩
    · exact nx 3 (by omega) (by omega) e.symm
    · exact nx 4 (by omega) (by omega) e.symm
    · exact nx 5 (by omega) (by omega) e.symm
    · exact nx 6 (by omega) (by omega) e.symm
    · exact nx (k + 7) (by omega) (by omega) e.symm
  have nS2 : ¬ ldS ad (ad 2) := fun h9 => by
    rcases h9 with e | e | e | e | ⟨k, hk, e⟩
    · exact hB.ne (i := 2) (j := 3) (by omega) (by omega) (by omega) e
    · exact hB.ne (i := 2) (j := 4) (by omega) (by omega) (by omega) e
    · exact hB.ne (i := 2) (j := 5) (by omega) (by omega) (by omega) e
    · exact hB.ne (i := 2) (j := 6) (by omega) (by omega) (by omega) e
    · exact hB.ne (i := 2) (j := k + 7) (by omega) (by omega) (by omega) e
  have nSm : ¬ ldS ad md := fun h9 => by
    rcases h9 with e | e | e | e | ⟨k, hk, e⟩
    · exact nm _ (hB.z 3 (by omega)) e.symm
    · exact nm _ (hB.z 4 (by omega)) e.symm
    · exact nm _ (hB.z 5 (by omega)) e.symm
    · exact nm _ (hB.z 6 (by omega)) e.symm
    · exact nm _ (hB.z (k + 7) (by omega)) e.symm
  have old : ∀ a b, xb_k h a = 0 → xb_k h b ≠ 0 → b ≠ a := fun a b ha hb e => hb (e ▸ ha)
  have znt : xb_k h nt = 0 := z8 _ g5.2.2.2.1
  have zim : xb_k h im = 0 := z8 _ g4.2.2.2.1
  have zrw : ∀ k, k < 12 → xb_k h (rw k) = 0 := fun k hk => z8 _ (g1 k hk).2.2.2.1
  have L47 : ∀ (hh : xb_H) (oa bcc bss : Nat), xb_ext h17 hh → ck_X (ldS ad) h0 hh md (ad 3) (ad 4) (ad 5) (fun k => ad (k + 7)) → md_M hh md cd nt im ts rw it' n' vs' cb ν' iv' → (xb_r hh (ad 5) 0 = some md ∧ xb_r hh (ad 5) 1 = some cd ∧ xb_r hh (ad 5) 2 = some nt ∧ xb_r hh (ad 5) 3 = some oa) → xb_k hh oa = 100 → ts < xb_n hh oa → xb_n hh oa ≤ 1000000 → (oa = ad 6 ∨ xb_k h oa = 0) → oa ≠ cd → xb_i hh md = xb_i h17 md → rc + 1 ≤ bcc → rs + 6 ≤ bss →
      w_Checker_checkAll_L47 (fun (h21 : xb_H) (bc22 bs22 : Nat) => xb_ext h17 h21 → ∃ b23 : Nat, (xb_r h21 (ad 0) 2) = some b23 ∧ xb_k h21 b23 = 104 ∧ vp_in (xb_i h21 (ad 0) 3) (xb_n h21 b23) ∧ ∀ h26 : xb_H, h26 = xb_P h21 b23 (Int32.toNatClampNeg (xb_i h21 (ad 0) 3)) (some md) → ∀ h27 : xb_H, h27 = xb_I h26 (ad 0) 3 ((xb_i h26 (ad 0) 3) + 1) → Qr ((xb_i h27 (ad 0) 3) - 1) h27 bc22 bs22) (fun (XX : String) (h21 : xb_H) (bc22 bs22 : Nat) => xb_ext h17 h21 → ∀ ax : Nat, (XX = "java/lang/IllegalArgumentException" ∧ w_H_load_L57 Qr Qt (ad 0) md ax h21 bc22 bs22)) (ad 5) hh bcc bss := by
    intro hh oa bcc bss exh hXh hMh hrr ko hoN ho2 hoS hoc himd hcc hbb
    have hoo : oa ≠ ad 7 := by
      rcases hoS with e | e
      · rw [e]; exact hB.ne (by omega) (by omega) (by omega)
      · exact fun e9 => hB.z 7 (by omega) (e9 ▸ e)
    have kdh : ∀ k, k < 7 → xb_k hh (ad (k + 7)) = (if k = 0 then 100 else if k = 6 then 101 else 102) := fun k hk => (hXh.2.2.2.2.2.2.2 k hk).2.1
    have k5h : xb_k hh (ad 5) = 5 := hXh.2.2.2.2.2.1
    have ne_k : ∀ a b : Nat, xb_k hh a ≠ xb_k hh b → a ≠ b := fun a b h9 e => h9 (by rw [e])
    have knt : xb_k hh nt = 102 := hMh.2.1.2.1
    have kim : xb_k hh im = 102 := hMh.2.2.2.1.2.1
    have kcd : xb_k hh cd = 100 := hMh.1.2.2.1
    have krw : ∀ k, k < 12 → xb_k hh (rw k) = 2 := fun k hk => hMh.krow hk
    refine cy_ckAll (w0 := b0) (cA := cA) (T := S') (D := zk b0 ts cA S') (C := ckM (zk b0 ts cA S')) (N := ts) (oa := oa) (rc := rc) (rs := rs) (ca := fun k => ad (k + 7)) (fun hE bcE bsE hXE c1 c2 hFl _ ax => ⟨rfl, ?_⟩) (by rw [himd, hom]; exact hER) rfl hCx rfl hXh hMh hDD hrr ko hoN ho2 ?_ ⟨.inr (.inr (.inl rfl)), nSm⟩ hcc hbb hcb ?_ G4.2.2 (G4.1 9 (by omega)).2.2.2.2 (zz _ g5.2.2.2.1) (fun k hk => (G4.1 k hk).2.2.2.1) (by rw [himd]; exact G9) (fun h' vs2 ν2 hX2 hM2 hmv hr2 hex2 hnone hmdi hk9 hk9' hbd hen _ => ?_)
    · obtain ⟨x1, x2, x3, x4, ⟨x5, x5'⟩, x6, ⟨o, o1, o2, o3, o4, o5⟩, x8⟩ := hXE
      refine fin hE bcE bsE o ax x1 x2 x3 x5' o1 o2 ?_ o5 (fun k hk => (x8 k hk).1) (by omega) (by omega) (hFl.elim (fun Fl hf => ⟨Fl, by rw [hRK]; unfold ldK; rw [hf.1], hf.2⟩))
      rcases o3 with o3 | o3
      · rcases o3 with e | e | e | e | ⟨k, hk, e⟩
        · rw [e, x5] at o2; cases o2
        · rw [e, x1.k (c := 101) (by rw [kh0]; exact k4)] at o2; cases o2
        · rw [e, x6] at o2; cases o2
        · exact .inl e
        · by_cases h9 : k = 0
          · exact absurd (by rw [e, h9]) o4
          · rw [e, (x8 k hk).2.1, if_neg h9] at o2
            split at o2 <;> cases o2
      · exact .inr (by rw [kh0] at o3; exact o3)
    · rcases hoS with e | e
      · exact .inl (.inr (.inr (.inr (.inl e))))
      · exact .inr (by rw [kh0]; exact e)
    · refine ⟨⟨hoc, ne_k _ _ (by rw [ko, k5h]; omega), ne_k _ _ (by rw [ko, knt]; omega), ne_k _ _ (by rw [ko, kim]; omega)⟩, ⟨ne_k _ _ (by rw [k5h, knt]; omega), ne_k _ _ (by rw [k5h, kcd]; omega), ne_k _ _ (by rw [k5h, kim]; omega)⟩, ⟨ne_k _ _ (by rw [knt, kcd]; omega), fun e => g6 e.symm⟩, fun k hk => ⟨hB.ne (by omega) (by omega) (by omega), ?_, old _ _ znt (hB.z _ (by omega)), old _ _ zcd (hB.z _ (by omega)), old _ _ zim (hB.z _ (by omega))⟩, fun i j hi hj e => ?_, fun k hk => ⟨ne_k _ _ (by rw [krw k hk, k5h]; omega), ne_k _ _ (by rw [krw k hk, ko]; omega), ne_k _ _ (by rw [krw k hk, knt]; omega), fun i hi => fun e => ?_⟩⟩
      · rcases hoS with e | e
        · rw [e]; exact hB.ne (by omega) (by omega) (by omega)
        · exact old _ _ e (hB.z _ (by omega))
      · rcases Nat.lt_trichotomy i j with h9 | h9 | h9
        · exact absurd e (hB.ne (by omega) (by omega) (by omega))
        · exact h9
        · exact absurd e (hB.ne (by omega) (by omega) (by omega))
      · have e' : rw k = ad (i + 7) := e
        exact (hB.z (i + 7) (by omega)) (by rw [← e']; exact zrw k hk)
    · obtain ⟨x1, x2, x3, x4, ⟨x5, x5'⟩, x6, x7, x8⟩ := id hX2
      have sx2 := x2 (ad 0) (by rw [kh0]; exact hB.z 0 (by omega)) nS0
      have s22 := x2 (ad 2) (by rw [kh0]; exact hB.z 2 (by omega)) nS2
      have k22 : xb_k h' (ad 2) = 104 := x1.k (c := 103) (by rw [kh0]; exact k2)
      have n22 : xb_n h' (ad 2) = 64 := by rw [x1.n (c := 103) (by rw [kh0]; exact k2), nh0]; exact nma
      have ix3 : xb_i h' (ad 0) 3 = xb_i h (ad 0) 3 := by rw [sx2.1, ix0, xh_up, if_neg (by omega), xh_up, if_neg (by omega), xh_up, if_neg (by omega)]
      refine ⟨ad 2, by rw [sx2.2.2, rh0]; exact r02, k22, by rw [z_in, ix3, n22, hmc]; omega, fun h26 e26 h27 e27 => ?_⟩
      have cmc : (xb_i h' (ad 0) 3).toNatClampNeg = mc := by rw [z_cl, ix3, hmc]; omega
      rw [cmc] at e26
      have i26 : xb_i h26 = xb_i h' := by rw [e26]; rfl
      rw [i26, ix3] at e27
      have k27 : xb_k h27 = xb_k h' := by rw [e27, e26]; rfl
      have n27 : xb_n h27 = xb_n h' := by rw [e27, e26]; rfl
      have i27 : ∀ a, a ≠ ad 0 → xb_i h27 a = xb_i h' a := fun a ha => by rw [e27, xh_iI, if_neg ha, i26]
      have ix27 : xb_i h27 (ad 0) = va_up (xb_i h' (ad 0)) 3 (xb_i h (ad 0) 3 + 1) := by rw [e27, xh_iI, if_pos rfl, i26]
      have r27 : ∀ a, a ≠ ad 2 → xb_r h27 a = xb_r h' a := fun a ha => by rw [e27, xh_rI, e26, xh_rP, if_neg ha]
      have r272 : xb_r h27 (ad 2) = va_up (xb_r h' (ad 2)) mc (some md) := by rw [e27, xh_rI, e26, xh_rP, if_pos rfl]
      have l27 : xb_l h27 = xb_l h' := by rw [e27, xh_lI, e26, xh_lP]
      have exE : xb_ext h h27 := fun a ha => by
        have := x1 a (by rw [kh0]; exact ha)
        rw [k27, n27, this.1, this.2, kh0, nh0]
        exact ⟨rfl, rfl⟩
      have e3 : (xb_i h (ad 0) 3 + 1).toInt = (mc + 1 : Nat) := by rw [z_add, hmc]; simp only [Int32.reduceToInt]; omega
      have ko2 : xb_k h' oa = 100 := hex2.k (c := 99) ko
      have r53' : xb_r h' (ad 5) 3 = some oa := by rw [hr2]; exact hrr.2.2.2
      have a20 : ad 2 ≠ ad 0 := nx 2 (by omega) (by omega)
      have hcB : cB (fun a => if xb_k h a = 0 then (if a = oa then 8 else 1) else own a) (fun k => if k = 6 then oa else ad k) h27 := by
        refine ld_cB hB exE (fun a ha hk => ?_) (by rw [r27 _ (hB.ne (by omega) (by omega) (by omega))]; exact x5') (by rw [r27 _ (hB.ne (by omega) (by omega) (by omega))]; exact r53') (by rw [k27]; exact ko2) hoS (fun k hk => by rw [r27 _ (hB.ne (by omega) (by omega) (by omega))]; exact (x8 k hk).1)
        have hnS : ¬ ldS ad a := fun h9 => by
          rcases h9 with e | e | e | e | ⟨k, hk9, e⟩
          · exact hk 3 (by omega) (by omega) e
          · exact hk 4 (by omega) (by omega) e
          · exact hk 5 (by omega) (by omega) e
          · exact hk 6 (by omega) (by omega) e
          · exact hk (k + 7) (by omega) (by omega) e
        rw [r27 a (hk 2 (by omega) (by omega)), (x2 a (by rw [kh0]; exact ha) hnS).2.2, rh0]
      have ow : ∀ a, xb_k h a = 0 → xb_k h' a ≠ 100 ∨ a ≠ oa → (fun a => if xb_k h a = 0 then (if a = oa then 8 else 1) else own a : Nat → Nat) a = 1 := fun a ha h9 => by
        simp only [if_pos ha]
        rw [if_neg (fun e => ?_)]
        rcases h9 with h9 | h9
        · exact h9 (e ▸ ko2)
        · exact h9 e
      have hmo : mo (fun a => if xb_k h a = 0 then (if a = oa then 8 else 1) else own a) h' md (cd, nt, im, ts, rw, it', n', vs2, cb, ν2, iv', F cb ν2) := by
        refine ⟨hM2, hmv, ow md zmd (.inl (by rw [x3]; omega)), ow cd zcd (.inr hoc.symm), ow nt znt (.inl (by have := hM2.2.1.2.1; omega)), ow im zim (.inl (by have := hM2.2.2.2.1.2.1; omega)), fun k hk => ⟨ow _ (zrw k hk) (.inl (by have := hM2.krow hk; show xb_k h' (rw k) ≠ 100; omega)), ow _ ?_ (.inl ?_)⟩⟩
        · have := (G4.1 k hk).2.2.2.2
          rw [kh0] at this
          exact this
        · have := (hM2.ok hk).2.2.2.2.1
          show xb_k h' (it' k) ≠ 100
          omega
      refine hQ1 h27 _ _ md _ _ bcc bss ⟨hcB, fun k hk => if_neg hk, fun a ha => if_neg ha, exE, fun a ha hk => ?_, ?_, ?_⟩ hm64 (hmo.fr (fun a ha ho => ?_) (fun a _ => ⟨by rw [k27], by rw [n27]⟩) (fun a _ ho => ho)) ?_ ?_ ?_ (by omega) (by omega) S' (by rw [hRK]; unfold ldK; rw [hnone]) ⟨vs', ν', by rw [i27 md nmd, hmdi, himd, hom]; exact hER, hk9, hk9', hbd, hen, hCx, rfl, hS10⟩ rfl ?_ ?_
      · have hnS : ¬ ldS ad a := fun h9 => by
          rcases h9 with e | e | e | e | ⟨k, hk9, e⟩
          · exact hk 3 (by omega) (by omega) e
          · exact hk 4 (by omega) (by omega) e
          · exact hk 5 (by omega) (by omega) e
          · exact hk 6 (by omega) (by omega) e
          · exact hk (k + 7) (by omega) (by omega) e
        have ha0 : a ≠ ad 0 := hk 0 (by omega) (by omega)
        have ha2 : a ≠ ad 2 := hk 2 (by omega) (by omega)
        have s := x2 a (by rw [kh0]; exact ha) hnS
        exact ⟨by rw [i27 a ha0, s.1, ih0 a ha0], by rw [l27, s.2.1, lh0], by rw [r27 a ha2, s.2.2, rh0]⟩
      · rw [ix27, xh_up, if_neg (by omega), sx2.1, ix0, xh_up, if_neg (by omega), xh_up, if_neg (by omega), xh_up, if_pos rfl]
        rfl
      · simp only [if_true]
        rw [n27, hex2.n (c := 99) ko]
        exact ho2
      · have ha0 : a ≠ ad 0 := fun e => by
          have h1 := hcB.o 0 (by omega)
          rw [e] at ho
          simp only [show ¬ (0 : Nat) = 6 by omega, if_false] at h1
          omega
        have ha2 : a ≠ ad 2 := fun e => by
          have h1 := hcB.o 2 (by omega)
          rw [e] at ho
          simp only [show ¬ (2 : Nat) = 6 by omega, if_false] at h1
          omega
        exact ⟨i27 a ha0, by rw [l27], r27 a ha2⟩
      · rw [r272, s22.2.2, rh0]
      · rw [ix27, xh_up, if_pos rfl]
        exact e3
      · rw [ix27, xh_up, if_pos rfl, z_sub, e3]
        simp only [Int32.reduceToInt]
        omega
      · rw [ix27, xh_up, if_neg (by omega), sx2.1, ix0, xh_up, if_neg (by omega), xh_up, if_pos rfl]
      · rw [ix27, xh_up, if_neg (by omega), sx2.1, ix0, xh_up, if_pos rfl]
  have rmd5 : ∀ (hh : xb_H) (k : Nat) (x : Option Nat), xb_r (xb_P hh (ad 5) k x) md = xb_r hh md := fun hh k x => by rw [xh_rP, if_neg km5]
  have mdP : ∀ (hh : xb_H) (k : Nat) (x : Option Nat), xb_k hh (ad 5) = 5 → md_M hh md cd nt im ts rw it' n' vs' cb ν' iv' → md_M (xb_P hh (ad 5) k x) md cd nt im ts rw it' n' vs' cb ν' iv' := fun hh k x k5' hM => by
    obtain ⟨⟨a1, a2, a3, a4, a5⟩, ⟨a6, a7⟩, a10, ⟨a11, a12⟩, a15⟩ := hM
    refine ⟨⟨a1, by rw [rmd5]; exact a2, a3, a4, a5⟩, ⟨by rw [rmd5]; exact a6, a7⟩, fun j hj => ?_, ⟨by rw [rmd5]; exact a11, a12⟩, a15⟩
    obtain ⟨b1, ⟨c1, c2, c3, c4, c5⟩, b3⟩ := a10 j hj
    refine ⟨by rw [rmd5]; exact b1, ⟨c1, c2, c3, ?_, c5⟩, b3⟩
    rw [xh_rP, if_neg (fun e => by rw [e, k5'] at c1; cases c1)]
    exact c4
  unfold w_Checker_checkAll
  refine ⟨k517, fun h2 e2 => ⟨by rw [e2]; exact f4, cd, by rw [e2, rmd5]; exact G10, fun h5' e5' => ⟨nt, by rw [e5', rmd5, e2, rmd5]; exact G11, fun h7 e7 => ⟨ad 6, ?_, by rw [e7, e5', e2]; exact k617, cd, ?_, by rw [e7, e5', e2]; exact kc17, ?_⟩⟩⟩⟩
  · rw [e7, xh_rP, if_pos rfl, xh_up, if_neg (by omega), e5', xh_rP, if_pos rfl, xh_up, if_neg (by omega), e2, xh_rP, if_pos rfl, xh_up, if_neg (by omega), s5.2.2, rh0]
    exact r53
  · rw [e7, xh_rP, if_pos rfl, xh_up, if_neg (by omega), e5', xh_rP, if_pos rfl, xh_up, if_pos rfl]
  have hX7 : ck_X (ldS ad) h0 h7 md (ad 3) (ad 4) (ad 5) (fun k => ad (k + 7)) := by
    have hS5 : ldS ad (ad 5) := .inr (.inr (.inl rfl))
    rw [e7, e5', e2]
    exact ((hX17.P hS5 (by omega)).P hS5 (by omega)).P hS5 (by omega)
  have hM7 : md_M h7 md cd nt im ts rw it' n' vs' cb ν' iv' := by
    rw [e7, e5', e2]
    exact mdP _ _ _ k517 (mdP _ _ _ k517 (mdP _ _ _ k517 hM17))
  have r70 : xb_r h7 (ad 5) 0 = some md := by rw [e7, xh_rP, if_pos rfl, xh_up, if_neg (by omega), e5', xh_rP, if_pos rfl, xh_up, if_neg (by omega), e2, xh_rP, if_pos rfl, xh_up, if_pos rfl]
  have r71 : xb_r h7 (ad 5) 1 = some cd := by rw [e7, xh_rP, if_pos rfl, xh_up, if_neg (by omega), e5', xh_rP, if_pos rfl, xh_up, if_pos rfl]
  have r72 : xb_r h7 (ad 5) 2 = some nt := by rw [e7, xh_rP, if_pos rfl, xh_up, if_pos rfl]
  have r73 : xb_r h7 (ad 5) 3 = some (ad 6) := by
    rw [e7, xh_rP, if_pos rfl, xh_up, if_neg (by omega), e5', xh_rP, if_pos rfl, xh_up, if_neg (by omega), e2, xh_rP, if_pos rfl, xh_up, if_neg (by omega), s5.2.2, rh0]
    exact r53
  have ex7 : xb_ext h17 h7 := by rw [e7, e5', e2]; exact fun a _ => ⟨rfl, rfl⟩
  have i7 : xb_i h7 = xb_i h17 := by rw [e7, e5', e2]; rfl
  have n76 : xb_n h7 (ad 6) = xb_n h17 (ad 6) := by rw [e7, e5', e2]; rfl
  have n7c : xb_n h7 cd = ts := by rw [e7, e5', e2]; exact nc17
  have k76 : xb_k h7 (ad 6) = 100 := by rw [e7, e5', e2]; exact k617
  have k7c : xb_k h7 cd = 100 := by rw [e7, e5', e2]; exact kc17
  have I6 := z_nI (n := xb_n h17 (ad 6)) (by omega)
  have Its := z_nI (n := ts) (by omega)
  rw [n76, n7c]
  refine ⟨fun e => ?_, fun e => ⟨cd, r71, k7c, ?_, ?_, by omega, ?_, fun q15 z15 h16 e16 h18 e18 => ?_⟩⟩
  · rw [z_lt, Its, I6] at e
    exact L47 h7 (ad 6) bc' bs' ex7 hX7 hM7 ⟨r70, r71, r72, r73⟩ k76 (by rw [n76]; omega) (by rw [n76]; exact n617) (.inl rfl) (old _ _ zcd (hB.z 6 (by omega))) (by rw [i7]) (by omega) (by omega)
  · rw [n7c]
    exact (ld_len hts3).1
  · rw [n7c, (ld_len hts3).2]
    exact hts4
  · rw [n7c, (ld_len hts3).2]
    exact hts5
  · have ecl : (nI (xb_n h7 cd) + 1).toNatClampNeg = ts + 1 := by
      rw [n7c]
      exact (ld_len hts3).2
    rw [ecl] at e16 ⊢
    have z17 : xb_k h17 q15 = 0 := by rw [e7, e5', e2] at z15; exact z15
    have z15h : xb_k h q15 = 0 := by
      cases e9 : xb_k h q15 with
      | zero => rfl
      | succ c =>
        have := f1.k (a := q15) (c := c) (by rw [kh0]; exact e9)
        rw [this] at z17
        cases z17
    have nq : ∀ a, xb_k h7 a ≠ 0 → a ≠ q15 := fun a ha e => ha (e ▸ z15)
    have ex18 : xb_ext h7 h18 := by rw [e18, e16]; exact xh_exN h7 _ _ z15
    have k18 : ∀ a, xb_k h18 a = if a = q15 then 100 else xb_k h7 a := fun a => by rw [e18, e16, xh_kP, xh_kN]
    have n18 : ∀ a, xb_n h18 a = if a = q15 then ts + 1 else xb_n h7 a := fun a => by rw [e18, e16, xh_nP, xh_nN]
    have i18 : ∀ a, a ≠ q15 → xb_i h18 a = xb_i h7 a := fun a ha => by rw [e18, e16, xh_iP, xh_iN, if_neg ha]
    have l18 : ∀ a, a ≠ q15 → xb_l h18 a = xb_l h7 a := fun a ha => by rw [e18, e16, xh_lP, xh_lN, if_neg ha]
    have r18 : ∀ a, a ≠ q15 → a ≠ ad 5 → xb_r h18 a = xb_r h7 a := fun a ha hb => by rw [e18, xh_rP, if_neg hb, e16, xh_rN, if_neg ha]
    have k75 : xb_k h7 (ad 5) = 5 := hX7.2.2.2.2.2.1
    have q5 : ad 5 ≠ q15 := nq _ (by omega)
    have r185 : xb_r h18 (ad 5) = va_up (xb_r h7 (ad 5)) 3 (some q15) := by rw [e18, xh_rP, if_pos rfl, e16, xh_rN, if_neg q5]
    refine L47 h18 q15 (bc' - 1) (bs' - (ts + 1)) (ex7.tr ex18) ?_ ?_ ⟨by rw [r185, xh_up, if_neg (by omega)]; exact r70, by rw [r185, xh_up, if_neg (by omega)]; exact r71, by rw [r185, xh_up, if_neg (by omega)]; exact r72, by rw [r185, xh_up, if_pos rfl]⟩ (by rw [k18, if_pos rfl]) (by rw [n18, if_pos rfl]; omega) (by rw [n18, if_pos rfl]; omega) (.inr z15h) (fun e => by rw [e, k7c] at z15; cases z15) (by rw [i18 md (nq md (by rw [hX7.2.2.1]; omega)), i7]) (by omega) (by omega)
    · obtain ⟨x1, x2, x3, x4, ⟨x5, x5'⟩, x6, x7, x8⟩ := id hX7
      have c35 : ad 3 ≠ ad 5 := hB.ne (by omega) (by omega) (by omega)
      refine ⟨x1.tr ex18, fun a ha hs => (x2 a ha hs).tr ?_, ex18.k (c := 2) x3, x4, ⟨ex18.k (c := 3) x5, by rw [r18 _ (nq _ (by omega)) c35]; exact x5'⟩, ex18.k (c := 4) x6, ⟨q15, by rw [r185, xh_up, if_pos rfl], by rw [k18, if_pos rfl], .inr (by rw [kh0]; exact z15h), fun e => ?_, by rw [n18, if_pos rfl]; omega⟩, fun k hk => ?_⟩
      · have hq9 : a ≠ q15 := fun e => by rw [e, kh0] at ha; exact ha z15h
        have h59 : a ≠ ad 5 := fun e => hs (.inr (.inr (.inl e)))
        exact ⟨i18 a hq9, l18 a hq9, r18 a hq9 h59⟩
      · have e' : q15 = ad 7 := e
        exact hB.z 7 (by omega) (e' ▸ z15h)
      · obtain ⟨g1', g2', g3', g4'⟩ := x8 k hk
        have kq : ad (k + 7) ≠ q15 := fun e => hB.z (k + 7) (by omega) (e ▸ z15h)
        refine ⟨?_, by rw [k18, if_neg kq]; exact g2', by rw [n18, if_neg kq]; exact g3', g4'⟩
        rw [r185, xh_up, if_neg (by split <;> omega)]
        exact g1'
    · obtain ⟨⟨a1, a2, a3, a4, a5⟩, ⟨a6, a7, a8, a9⟩, a10, ⟨a11, a12, a13, a14⟩, a15⟩ := hM7
      have qm := nq md (by omega)
      have qc := nq cd (by omega)
      have qn := nq nt (by omega)
      have qi := nq im (by omega)
      refine ⟨⟨ex18.k (c := 2) a1, by rw [r18 _ qm km5]; exact a2, ex18.k (c := 99) a3, by rw [n18, if_neg qc]; exact a4, by rw [i18 _ qc]; exact a5⟩, ⟨by rw [r18 _ qm km5]; exact a6, ex18.k (c := 101) a7, by rw [n18, if_neg qn]; exact a8, by rw [i18 _ qn]; exact a9⟩, fun j hj => ?_, ⟨by rw [r18 _ qm km5]; exact a11, ex18.k (c := 101) a12, by rw [n18, if_neg qi]; exact a13, by rw [i18 _ qi]; exact a14⟩, a15⟩
      obtain ⟨b1, b2, b3⟩ := a10 j hj
      have qr := nq (rw j) (by rw [b2.1]; omega)
      have qt := nq (it' j) (by rw [b2.2.2.2.2.1]; omega)
      have r5 : rw j ≠ ad 5 := fun e => by have := b2.1; rw [e, k75] at this; cases this
      exact ⟨by rw [r18 _ qm km5]; exact b1, b2.fr ⟨i18 _ qr, l18 _ qr, r18 _ qr r5⟩ ex18, fun i hi => by rw [l18 _ qt]; exact b3 i hi⟩
end LDX
