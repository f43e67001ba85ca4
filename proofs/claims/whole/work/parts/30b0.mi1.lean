-- the reference: instances, functions
section MI1
variable {own : Nat → Nat} {mm m i ip k f t : Nat} {A : Nat → Nat} {h h' h2 : xb_H} {F F' F2 : Nat → Nat → Int32} {v v' v2 : Nat → Int32} {D : zM} {DM : Nat → zM} {len rl K : Nat} {Qr : Int32 → xb_H → Prop}
theorem z_ms {x y z : Int32} {a b c : Nat} (h1 : x.toInt = a) (h2 : y.toInt = b) (h3 : z.toInt = c) (hc : c ≤ b) (ha : a ≤ 1000000) (hb : b ≤ 1000000) : (x + y - z).toInt = (a + (b - c) : Nat) := by
  rw [z_sub, z_add, h1, h2, h3]
  omega
/-- what an import means -/
theorem m_meantI {x1 x2 x3 : Int32} {κ : Nat} (hrl : xb_n h (A 33) = rl ∧ rl ≤ 512000) (hX : mX own mm A h F m D) (hz : v 17 = 0) (h1 : x1.toInt = i) (hi : i < 24) (h2 : x2.toInt = κ) (hκ : κ < 4) (h3 : x3.toInt = k) (hm : (F (A 31) i).toInt = m) (hp : (F (A 32) i).toInt = ip) (hk : k < iM D κ) (hr : ip + qt D 2 ≤ rl)
    (hQ : ∀ v', vg v v' → v' 17 = 0 → ikx D κ (qt D 2) k < qt D 2 → (ub (qc D) (kpo D (ikx D κ (qt D 2) k))).toInt = κ → Qr (F (A 33) (ip + ikx D κ (qt D 2) k)) (mH h F mm v')) : w_M_meant mm x1 x2 x3 (mH h F mm v) Qr := by
  have hB := hX.1
  obtain ⟨a1, a2, a3, a4⟩ := hB.kx (k := 31) (kd := 102) (n := 24) (by decide) (by decide)
  obtain ⟨b1, b2, b3, b4⟩ := hB.kx (k := 10) (kd := 102) (n := 256) (by decide) (by decide)
  obtain ⟨c1, c2, c3, c4⟩ := hB.kx (k := 32) (kd := 102) (n := 24) (by decide) (by decide)
  obtain ⟨d1, d2, -, -⟩ := hB.g (k := 33) (kd := 102) (n := 0) (by decide)
  obtain ⟨r1, r3⟩ := hrl
  obtain ⟨m64, -, -, -, -, im⟩ := hX.2.1
  unfold w_M_meant
  refine ⟨hB.2.1, A 31, a1, a2, ?_, fun v5 e5 => ⟨A 10, b1, b2, ?_, fun v9 e9 => ⟨fun hle => ?_, fun hle => ⟨A 33, d1, A 32, c1, c2, ?_, ?_⟩⟩⟩⟩
  · rw [z_in, h1]
    show _ ∧ _ < ((xb_n h (A 31) : Nat) : Int)
    omega
  · rw [mH_o a4, z_cl, h1, Int.toNat_natCast] at e5
    rw [z_in, z_4 (by rw [e5]; exact hm) h2 m64 hκ]
    show _ ∧ _ < ((xb_n h (A 10) : Nat) : Int)
    omega
  · rw [mH_o a4, z_cl, h1, Int.toNat_natCast] at e5
    rw [mH_o b4, z_cl, z_4 (by rw [e5]; exact hm) h2 m64 hκ, Int.toNat_natCast] at e9
    rw [z_le, e9, im κ hκ, h3] at hle
    omega
  · rw [z_in, h1]
    show _ ∧ _ < ((xb_n h (A 32) : Nat) : Int)
    omega
  · rw [mH_o a4, z_cl, h1, Int.toNat_natCast] at e5
    refine m_importOf hX hz (by rw [e5]; exact hm) h2 h3 hk (fun v' r g1 g2 hr2 _ _ => ?_)
    obtain ⟨g3, g4, g5⟩ := ikx_f (D := D) (κ := κ) (n := qt D 2) hk
    have e10 : (xb_i (mH h F mm v) (A 32) x1.toNatClampNeg + r).toInt = (ip + ikx D κ (qt D 2) k : Nat) := by
      rw [mH_o c4, z_cl, h1, Int.toNat_natCast]
      exact z_ad2 hp hr2 (by omega) (by omega)
    refine ⟨d2, ?_, ?_⟩
    · rw [z_in, e10]
      show _ ∧ _ < ((xb_n h (A 33) : Nat) : Int)
      omega
    · rw [mH_o (hB.nm (by decide)), z_cl, e10, Int.toNat_natCast]
      exact hQ v' g1 g2 g3 g4
/-- what an instance has of its own -/
theorem m_meantO {x1 x2 x3 : Int32} {κ : Nat} (hX : mX own mm A h F m D) (h1 : x1.toInt = i) (hi : i < 24) (h2 : x2.toInt = κ) (hκ : κ < 4) (h3 : x3.toInt = k) (hk9 : k ≤ 1000000) (hm : (F (A 31) i).toInt = m) (hk : iM D κ ≤ k)
    (hQ : ∀ r : Int32, (κ = 0 → ∀ o : Nat, (F (A 35) i).toInt = o → o ≤ 1000000 → r.toInt = (o + (k - iM D 0) : Nat)) → (κ = 1 → r = F (A 37) i) → (κ = 2 → r = F (A 38) i) → (κ = 3 → ∀ o : Nat, (F (A 36) i).toInt = o → o ≤ 1000000 → r.toInt = (o + (k - iM D 3) : Nat)) → Qr r (mH h F mm v)) : w_M_meant mm x1 x2 x3 (mH h F mm v) Qr := by
  have hB := hX.1
  obtain ⟨a1, a2, a3, a4⟩ := hB.kx (k := 31) (kd := 102) (n := 24) (by decide) (by decide)
  obtain ⟨b1, b2, b3, b4⟩ := hB.kx (k := 10) (kd := 102) (n := 256) (by decide) (by decide)
  obtain ⟨m64, -, -, -, -, im⟩ := hX.2.1
  have hb := hX.2.2.ib (κ := κ)
  have cl : x1.toNatClampNeg = i := by rw [z_cl, h1]; omega
  have in24 : ∀ a, xb_n h a = 24 → vp_in x1 (xb_n (mH h F mm v) a) := fun a ha => by
    rw [z_in, h1]
    show _ ∧ _ < ((xb_n h a : Nat) : Int)
    omega
  have kap : ∀ c : Int32, x2 = c ↔ (κ : Int) = c.toInt := fun c => by rw [z_eq, h2]
  unfold w_M_meant w_M_meant_L105
  refine ⟨hB.2.1, A 31, a1, a2, in24 _ a3, fun v5 e5 => ⟨A 10, b1, b2, ?_, fun v9 e9 => ?_⟩⟩
  · rw [mH_o a4, cl] at e5
    rw [z_in, z_4 (by rw [e5]; exact hm) h2 m64 hκ]
    show _ ∧ _ < ((xb_n h (A 10) : Nat) : Int)
    omega
  rw [mH_o a4, cl] at e5
  rw [mH_o b4, z_cl, z_4 (by rw [e5]; exact hm) h2 m64 hκ, Int.toNat_natCast] at e9
  have e9' : v9.toInt = iM D κ := by rw [e9]; exact im κ hκ
  refine ⟨fun _ => ⟨fun k0 => ⟨fun k1 => ⟨fun k2 => ?_, fun k2 => ?_⟩, fun k1 => ?_⟩, fun k0 => ?_⟩, fun hle => ?_⟩
  · obtain ⟨c1, c2, c3, c4⟩ := hB.kx (k := 36) (kd := 102) (n := 24) (by decide) (by decide)
    simp only [kap, Int32.reduceToInt] at k0 k1 k2
    have e3 : κ = 3 := by omega
    subst e3
    refine ⟨A 36, c1, c2, in24 _ c3, hQ _ (fun e => by omega) (fun e => by omega) (fun e => by omega) (fun _ o ho h9 => ?_)⟩
    rw [mH_o c4, cl]
    exact z_ms ho h3 e9' hk h9 hk9
  · obtain ⟨c1, c2, c3, c4⟩ := hB.kx (k := 38) (kd := 102) (n := 24) (by decide) (by decide)
    simp only [kap, Int32.reduceToInt] at k2
    refine ⟨A 38, c1, c2, in24 _ c3, hQ _ (fun e => by omega) (fun e => by omega) (fun e => ?_) (fun e => by omega)⟩
    rw [mH_o c4, cl]
  · obtain ⟨c1, c2, c3, c4⟩ := hB.kx (k := 37) (kd := 102) (n := 24) (by decide) (by decide)
    simp only [kap, Int32.reduceToInt] at k1
    refine ⟨A 37, c1, c2, in24 _ c3, hQ _ (fun e => by omega) (fun e => ?_) (fun e => by omega) (fun e => by omega)⟩
    rw [mH_o c4, cl]
  · obtain ⟨c1, c2, c3, c4⟩ := hB.kx (k := 35) (kd := 102) (n := 24) (by decide) (by decide)
    simp only [kap, Int32.reduceToInt] at k0
    have e3 : κ = 0 := by omega
    subst e3
    refine ⟨A 35, c1, c2, in24 _ c3, hQ _ (fun _ o ho h9 => ?_) (fun e => by omega) (fun e => by omega) (fun e => by omega)⟩
    rw [mH_o c4, cl]
    exact z_ms ho h3 e9' hk h9 hk9
  · rw [z_le, e9', h3] at hle
    omega
theorem rA.io (hA : rA own mm A h F v DM len rl K) (hi : i < vN v 30) : iOK (fun k => F (A k)) v DM i := hA.I.2.2.1 i hi
theorem rA.w4 (hA : rA own mm A h F v DM len rl K) : W4 (fun k => F (A k)) v DM := hA.I.2.2.2.1
/-- what a number of an instance means -/
def mnV (A : Nat → Nat) (F : Nat → Nat → Int32) (DM : Nat → zM) (i κ k : Nat) : Nat := if k < iM (DM (F (A 31) i).toInt.toNat) κ then (F (A 33) ((F (A 32) i).toInt.toNat + ikx (DM (F (A 31) i).toInt.toNat) κ (qt (DM (F (A 31) i).toInt.toNat) 2) k)).toInt.toNat else if κ = 0 then (F (A 35) i).toInt.toNat + (k - iM (DM (F (A 31) i).toInt.toNat) 0) else if κ = 1 then (F (A 37) i).toInt.toNat else if κ = 2 then (F (A 38) i).toInt.toNat else (F (A 36) i).toInt.toNat + (k - iM (DM (F (A 31) i).toInt.toNat) 3)
theorem m_meantE {x1 x2 x3 : Int32} {κ : Nat} (hA : rA own mm A h F v DM len rl K) (h1 : x1.toInt = i) (hi : i < vN v 30) (h2 : x2.toInt = κ) (hκ : κ < 4) (h3 : x3.toInt = k) (hm : (F (A 31) i).toInt = m) (hk : k < iM (DM m) κ + qt (DM m) (3 + κ))
    (hQ : ∀ (v' : Nat → Int32) (r : Int32) (g : Nat), vg v v' → v' 17 = 0 → r.toInt = g → g = mnV A F DM i κ k → (κ = 0 → fnO v g ∧ fPl (fun k => F (A k)) DM g = ptl (qc (DM m)) (tPa (DM m) (fty (DM m) k)) (tPn (DM m) (fty (DM m) k)) ∧ fRt (fun k => F (A k)) DM g = tRt (DM m) (fty (DM m) k)) → (κ = 1 → g < vN v 46) → (κ = 2 → g < vN v 52) → (κ = 3 → g < vN v 58 ∧ (F (A 59) g).toInt = vty (DM m) k) → Qr r (mH h F mm v')) : w_M_meant mm x1 x2 x3 (mH h F mm v) Qr := by
  obtain ⟨m', ip, ofn, ov, ot, om, ⟨d1, d2, d3, d4, d5, d6⟩, ⟨e1, e2, e3, e4, e5, e6⟩, f1, f2, f3⟩ := hA.io hi
  have em : m' = m := by
    have : (F (A 31) i).toInt = m' := d1
    omega
  subst em
  have hX := hA.X e1
  have n30 := (hA.n (k := 30) (b := 24) (by decide)).2
  have n43 := (hA.n (k := 43) (b := 8192) (by decide)).2
  have n58 := (hA.n (k := 58) (b := 4096) (by decide)).2
  have r4 := hA.2.2.1.2.2.2.1
  have bq := (hX.2.2.2.2.2.1 (3 + κ) (by omega)).1
  have bi := hX.2.2.ib (κ := κ)
  have d1' : (F (A 31) i).toInt.toNat = m' := by rw [show (F (A 31) i).toInt = m' from d1]; omega
  have d2' : (F (A 32) i).toInt.toNat = ip := by rw [show (F (A 32) i).toInt = ip from d2]; omega
  have d3' : (F (A 35) i).toInt.toNat = ofn := by rw [show (F (A 35) i).toInt = ofn from d3]; omega
  have d4' : (F (A 36) i).toInt.toNat = ov := by rw [show (F (A 36) i).toInt = ov from d4]; omega
  have d5' : (F (A 37) i).toInt.toNat = ot := by rw [show (F (A 37) i).toInt = ot from d5]; omega
  have d6' : (F (A 38) i).toInt.toNat = om := by rw [show (F (A 38) i).toInt = om from d6]; omega
  have mnI : k < iM (DM m') κ → ∀ g : Nat, (F (A 33) (ip + ikx (DM m') κ (qt (DM m') 2) k)).toInt = g → g = mnV A F DM i κ k := fun h9 g h8 => by
    unfold mnV
    rw [d1', d2', if_pos h9, h8]
    omega
  have mnO : ¬ k < iM (DM m') κ → mnV A F DM i κ k = if κ = 0 then ofn + (k - iM (DM m') 0) else if κ = 1 then ot else if κ = 2 then om else ov + (k - iM (DM m') 3) := fun h9 => by
    unfold mnV
    rw [d1', d3', d4', d5', d6', if_neg h9]
  rcases Nat.lt_or_ge k (iM (DM m') κ) with hl | hl
  · refine m_meantI ⟨hA.2.2.1.1, hA.2.2.1.2.2.1⟩ hX hA.z h1 (by omega) h2 hκ h3 d1 d2 hl (by omega) (fun v' g1 g2 g3 g4 => ?_)
    have hro : rOK (fun k => F (A k)) v DM (DM m') (ikx (DM m') κ (qt (DM m') 2) k) (F (A 33) (ip + ikx (DM m') κ (qt (DM m') 2) k)).toInt := f3 _ g3
    obtain ⟨o0, o1, o2, o3⟩ := hro
    have hκ' : κ = 0 ∨ κ = 1 ∨ κ = 2 ∨ κ = 3 := by omega
    rcases hκ' with e | e | e | e
    · subst e
      obtain ⟨f, y1, y2, y3, y4⟩ := o0 g4
      refine hQ v' _ f g1 g2 y1 (mnI hl f y1) (fun _ => ⟨y2, ?_, ?_⟩) (fun e => by omega) (fun e => by omega) (fun e => by omega)
      · rw [y3]
        unfold fty fpo
        rw [if_pos hl]
      · rw [y4]
        unfold fty fpo
        rw [if_pos hl]
    · subst e
      obtain ⟨f, y1, y2⟩ := o1 g4
      exact hQ v' _ f g1 g2 y1 (mnI hl f y1) (fun e => by omega) (fun _ => y2) (fun e => by omega) (fun e => by omega)
    · subst e
      obtain ⟨f, y1, y2⟩ := o2 g4
      exact hQ v' _ f g1 g2 y1 (mnI hl f y1) (fun e => by omega) (fun e => by omega) (fun _ => y2) (fun e => by omega)
    · subst e
      obtain ⟨f, y1, y2, y3⟩ := o3 g4
      refine hQ v' _ f g1 g2 y1 (mnI hl f y1) (fun e => by omega) (fun e => by omega) (fun e => by omega) (fun _ => ⟨y2, ?_⟩)
      rw [show (F (A 59) f).toInt = _ from y3]
      unfold vty vpo
      rw [if_pos hl]
  · refine m_meantO hX h1 (by omega) h2 hκ h3 (by omega) d1 hl (fun r q0 q1 q2 q3 => ?_)
    have hκ' : κ = 0 ∨ κ = 1 ∨ κ = 2 ∨ κ = 3 := by omega
    rcases hκ' with e | e | e | e
    · subst e
      have hk' : k - iM (DM m') 0 < qt (DM m') 3 := by
        have : qt (DM m') (3 + 0) = qt (DM m') 3 := rfl
        omega
      obtain ⟨z1, z2⟩ := f1 _ hk'
      have hf : ofn + (k - iM (DM m') 0) < 100000 := by omega
      have em2 : fMo (fun k => F (A k)) DM (ofn + (k - iM (DM m') 0)) = DM m' := by
        unfold fMo
        rw [aV_of (φ := fun k => F (A k)) z1, aV_of (φ := fun k => F (A k)) d1]
      have et2 : fTy (fun k => F (A k)) DM (ofn + (k - iM (DM m') 0)) = fty (DM m') k := by
        unfold fTy
        rw [em2, aV_of (φ := fun k => F (A k)) z2]
        congr 1
        omega
      refine hQ v r _ vg.rf hA.z (q0 rfl ofn d3 (by omega)) (by rw [mnO (by omega), if_pos rfl]) (fun _ => ⟨.inl (by omega), ?_, ?_⟩) (fun e => by omega) (fun e => by omega) (fun e => by omega)
      · unfold fPl
        rw [if_pos hf, em2, et2]
      · unfold fRt
        rw [if_pos hf, em2, et2]
    · subst e
      refine hQ v r ot vg.rf hA.z (by rw [q1 rfl]; exact d5) (by rw [mnO (by omega), if_neg (by decide), if_pos rfl]) (fun e => by omega) (fun _ => e5 ?_) (fun e => by omega) (fun e => by omega)
      have : qt (DM m') (3 + 1) = qt (DM m') 4 := rfl
      omega
    · subst e
      refine hQ v r om vg.rf hA.z (by rw [q2 rfl]; exact d6) (by rw [mnO (by omega), if_neg (by decide), if_neg (by decide), if_pos rfl]) (fun e => by omega) (fun e => by omega) (fun _ => e6 ?_) (fun e => by omega)
      have : qt (DM m') (3 + 2) = qt (DM m') 5 := rfl
      omega
    · subst e
      have hk' : k - iM (DM m') 3 < qt (DM m') 6 := by
        have : qt (DM m') (3 + 3) = qt (DM m') 6 := rfl
        omega
      refine hQ v r _ vg.rf hA.z (q3 rfl ov d4 (by omega)) (by rw [mnO (by omega), if_neg (by decide), if_neg (by decide), if_neg (by decide)]) (fun e => by omega) (fun e => by omega) (fun e => by omega) (fun _ => ⟨by omega, ?_⟩)
      have := f2 _ hk'
      rw [show iM (DM m') 3 + (k - iM (DM m') 3) = k by omega] at this
      exact this
theorem m_meant {x1 x2 x3 : Int32} {κ : Nat} (hA : rA own mm A h F v DM len rl K) (h1 : x1.toInt = i) (hi : i < vN v 30) (h2 : x2.toInt = κ) (hκ : κ < 4) (h3 : x3.toInt = k) (hm : (F (A 31) i).toInt = m) (hk : k < iM (DM m) κ + qt (DM m) (3 + κ))
    (hQ : ∀ (v' : Nat → Int32) (r : Int32) (g : Nat), vg v v' → v' 17 = 0 → r.toInt = g → (κ = 0 → fnO v g ∧ fPl (fun k => F (A k)) DM g = ptl (qc (DM m)) (tPa (DM m) (fty (DM m) k)) (tPn (DM m) (fty (DM m) k)) ∧ fRt (fun k => F (A k)) DM g = tRt (DM m) (fty (DM m) k)) → (κ = 1 → g < vN v 46) → (κ = 2 → g < vN v 52) → (κ = 3 → g < vN v 58 ∧ (F (A 59) g).toInt = vty (DM m) k) → Qr r (mH h F mm v')) : w_M_meant mm x1 x2 x3 (mH h F mm v) Qr :=
  m_meantE hA h1 hi h2 hκ h3 hm hk (fun v' r g g1 g2 g3 _ => hQ v' r g g1 g2 g3)
theorem rA.mo (hA : rA own mm A h F v DM len rl K) (hi : i < vN v 30) : ∃ m : Nat, (F (A 31) i).toInt = m ∧ m < vN v 5 := by
  obtain ⟨m', ip, ofn, ov, ot, om, ⟨d1, -⟩, ⟨e1, -⟩, -⟩ := hA.io hi
  exact ⟨m', d1, e1⟩
/-- an instance's only table or memory -/
def oV (A : Nat → Nat) (F : Nat → Nat → Int32) (DM : Nat → zM) (i κ : Nat) : Int32 := if 0 < iM (DM (F (A 31) i).toInt.toNat) κ then F (A 33) ((F (A 32) i).toInt.toNat + ikx (DM (F (A 31) i).toInt.toNat) κ (qt (DM (F (A 31) i).toInt.toNat) 2) 0) else if κ = 1 then F (A 37) i else F (A 38) i
theorem m_only {x1 x2 : Int32} {κ : Nat} (hA : rA own mm A h F v DM len rl K) (h1 : x1.toInt = i) (hi : i < vN v 30) (h2 : x2.toInt = κ) (hκ : κ = 1 ∨ κ = 2) (hQ : ∀ (v' : Nat → Int32) (r : Int32), vg v v' → v' 17 = 0 → (r = -1 ∧ ∀ m : Nat, (F (A 31) i).toInt = m → iM (DM m) κ + qt (DM m) (3 + κ) = 0) ∨ (∃ g : Nat, r.toInt = g ∧ (κ = 1 → g < vN v 46) ∧ (κ = 2 → g < vN v 52) ∧ r = oV A F DM i κ ∧ ∀ m : Nat, (F (A 31) i).toInt = m → 0 < iM (DM m) κ + qt (DM m) (3 + κ)) → Qr r (mH h F mm v')) : w_M_only mm x1 x2 (mH h F mm v) Qr := by
  obtain ⟨m, ip, ofn, ov, ot, om, ⟨d1, d2, d3, d4, d5, d6⟩, ⟨e2, e3, -, -, e5, e6⟩, f1, f2, f3⟩ := hA.io hi
  have e1 : (F (A 31) i).toInt = m := d1
  have d2' : (F (A 32) i).toInt = ip := d2
  have hX := hA.X e2
  have hB := hA.B
  have n30 := (hA.n (k := 30) (b := 24) (by decide)).2
  have r4 := hA.2.2.1.2.2.2.1
  obtain ⟨a1, a2, a3, a4⟩ := hB.kx (k := 31) (kd := 102) (n := 24) (by decide) (by decide)
  have cl : x1.toNatClampNeg = i := by rw [z_cl, h1]; omega
  have oe : oV A F DM i κ = if 0 < iM (DM m) κ then F (A 33) (ip + ikx (DM m) κ (qt (DM m) 2) 0) else if κ = 1 then F (A 37) i else F (A 38) i := by
    unfold oV
    rw [e1, d2', Int.toNat_natCast, Int.toNat_natCast]
  unfold w_M_only w_M_only_L27
  refine ⟨hB.2.1, A 31, a1, a2, ?_, ?_⟩
  · rw [z_in, h1]
    show _ ∧ _ < ((xb_n h (A 31) : Nat) : Int)
    omega
  · rw [mH_o a4, cl]
    refine m_total hX e1 h2 (by omega) (fun r hr _ => ⟨fun hn => ?_, fun he => hQ v _ vg.rf hA.z (.inl ⟨rfl, fun m' hm' => ?_⟩)⟩)
    · have h9 : 0 < iM (DM m) κ + qt (DM m) (3 + κ) := by
        rcases Nat.eq_zero_or_pos (iM (DM m) κ + qt (DM m) (3 + κ)) with h9 | h9
        · exfalso
          apply hn
          rw [h9] at hr
          have : r.toInt = (0 : Int64).toInt := hr
          exact Int64.toInt_inj.mp this
        · exact h9
      have h99 : ∀ m' : Nat, (F (A 31) i).toInt = m' → 0 < iM (DM m') κ + qt (DM m') (3 + κ) := fun m' hm' => by
        have : m' = m := by omega
        subst this
        exact h9
      rcases Nat.eq_zero_or_pos (iM (DM m) κ) with hl | hl
      · refine m_meantO (k := 0) hX h1 (by omega) h2 (by omega) rfl (by omega) e1 (by omega) (fun r q0 q1 q2 q3 _ => ?_)
        rw [if_neg (by omega)] at oe
        rcases hκ with e | e
        · subst e
          rw [if_pos rfl] at oe
          have e37 : (F (A 37) i).toInt = ot := d5
          exact hQ v r vg.rf hA.z (.inr ⟨ot, by rw [q1 rfl]; exact e37, fun _ => e5 (by have : qt (DM m) (3 + 1) = qt (DM m) 4 := rfl; omega), fun e => by omega, by rw [q1 rfl, oe], h99⟩)
        · subst e
          rw [if_neg (by decide)] at oe
          have e38 : (F (A 38) i).toInt = om := d6
          exact hQ v r vg.rf hA.z (.inr ⟨om, by rw [q2 rfl]; exact e38, fun e => by omega, fun _ => e6 (by have : qt (DM m) (3 + 2) = qt (DM m) 5 := rfl; omega), by rw [q2 rfl, oe], h99⟩)
      · refine m_meantI (k := 0) ⟨hA.2.2.1.1, hA.2.2.1.2.2.1⟩ hX hA.z h1 (by omega) h2 (by omega) rfl e1 d2' hl (by omega) (fun v' g1 g2 g3 g4 _ => ?_)
        rw [if_pos hl] at oe
        have hro : rOK (fun k => F (A k)) v DM (DM m) (ikx (DM m) κ (qt (DM m) 2) 0) (F (A 33) (ip + ikx (DM m) κ (qt (DM m) 2) 0)).toInt := f3 _ g3
        obtain ⟨-, o1, o2, -⟩ := hro
        rcases hκ with e | e
        · subst e
          obtain ⟨f, y1, y2⟩ := o1 g4
          exact hQ v' _ g1 g2 (.inr ⟨f, y1, fun _ => y2, fun e => by omega, oe.symm, h99⟩)
        · subst e
          obtain ⟨f, y1, y2⟩ := o2 g4
          exact hQ v' _ g1 g2 (.inr ⟨f, y1, fun e => by omega, fun _ => y2, oe.symm, h99⟩)
    · have : m' = m := by omega
      subst this
      rw [he] at hr
      have : (0 : Int64).toInt = 0 := rfl
      omega
/-- a function that an instance made -/
theorem rA.fn (hA : rA own mm A h F v DM len rl K) (hf : f < vN v 43) : ∃ i m b : Nat, (F (A 44) f).toInt = i ∧ i < 24 ∧ i < vN v 30 ∧ (F (A 31) i).toInt = m ∧ m < vN v 5 ∧ (F (A 45) f).toInt = b ∧ b < qt (DM m) 3 ∧ f < 8192 ∧ fMo (fun k => F (A k)) DM f = DM m ∧ fTy (fun k => F (A k)) DM f = fty (DM m) (iM (DM m) 0 + b) ∧ fty (DM m) (iM (DM m) 0 + b) < qt (DM m) 1 ∧ qt (DM m) 1 ≤ 12000 := by
  obtain ⟨i, b, e1, e2, e3, e4⟩ := hA.w4.1 f hf
  obtain ⟨m, d1, d2⟩ := hA.mo e3
  have am : aV (fun k => F (A k)) 31 i = m := aV_of d1
  have ai : aV (fun k => F (A k)) 44 f = i := aV_of e1
  have ab : aV (fun k => F (A k)) 45 f = b := aV_of e2
  rw [am] at e4
  have n30 := (hA.n (k := 30) (b := 24) (by decide)).2
  have n43 := (hA.n (k := 43) (b := 8192) (by decide)).2
  have hm : fMo (fun k => F (A k)) DM f = DM m := by
    unfold fMo
    rw [ai, am]
  obtain ⟨-, hR, -, -, hV⟩ := hA.I.2.1 m d2
  refine ⟨i, m, b, e1, by omega, e3, d1, d2, e2, e4, by omega, hm, ?_, hV.1.2.1 _ (by omega), (hR.2.2.2.1 1 (by decide)).1⟩
  unfold fTy
  rw [hm, ab]
theorem fPl_lo (hf : f < 100000) {φ : Nat → Nat → Int32} : fPl φ DM f = ptl (qc (fMo φ DM f)) (tPa (fMo φ DM f) (fTy φ DM f)) (tPn (fMo φ DM f) (fTy φ DM f)) := if_pos hf
theorem fRt_lo (hf : f < 100000) {φ : Nat → Nat → Int32} : fRt φ DM f = tRt (fMo φ DM f) (fTy φ DM f) := if_pos hf
theorem m_fnPre {x1 : Int32} {C : Int32 → Int32 → xb_H → Prop} (hA : rA own mm A h F v DM len rl K) (h1 : x1.toInt = f) (hf2 : f < vN v 43) (hQ : ∀ (v9 : Int32) (v' : Nat → Int32) (r : Int32) (m : Nat), v9.toInt = m → m < vN v 5 → fMo (fun k => F (A k)) DM f = DM m → fTy (fun k => F (A k)) DM f < qt (DM m) 1 → f < 100000 → vg v v' → v' 17 = 0 → r.toInt = fTy (fun k => F (A k)) DM f → C v9 r (mH h F mm v')) :
    xb_k (mH h F mm v) mm = 9 ∧ ∃ b3 : Nat, (xb_r (mH h F mm v) mm 31) = some b3 ∧ ∃ b4 : Nat, (xb_r (mH h F mm v) mm 44) = some b4 ∧ xb_k (mH h F mm v) b4 = 102 ∧ vp_in x1 (xb_n (mH h F mm v) b4) ∧ xb_k (mH h F mm v) b3 = 102 ∧ vp_in (xb_i (mH h F mm v) b4 (Int32.toNatClampNeg x1)) (xb_n (mH h F mm v) b3) ∧ ∀ v9 : Int32, v9 = (xb_i (mH h F mm v) b3 (Int32.toNatClampNeg (xb_i (mH h F mm v) b4 (Int32.toNatClampNeg x1)))) → ∃ b10 : Nat, (xb_r (mH h F mm v) mm 10) = some b10 ∧ xb_k (mH h F mm v) b10 = 102 ∧ vp_in (4 * v9) (xb_n (mH h F mm v) b10) ∧ ∃ b13 : Nat, (xb_r (mH h F mm v) mm 45) = some b13 ∧ xb_k (mH h F mm v) b13 = 102 ∧ vp_in x1 (xb_n (mH h F mm v) b13) ∧ w_M_typeOf mm v9 ((xb_i (mH h F mm v) b10 (Int32.toNatClampNeg (4 * v9))) + (xb_i (mH h F mm v) b13 (Int32.toNatClampNeg x1))) (mH h F mm v) (C v9) := by
  have hB := hA.B
  obtain ⟨i, m, b, y1, y2, -, y3, y4, y5, y6, y7, y8, y9, y10, y11⟩ := hA.fn hf2
  have hX := hA.X y4
  obtain ⟨m64, -, -, -, -, im⟩ := hX.2.1
  have bi := hX.2.2.ib (κ := 0)
  have b3 := (hX.2.2.2.2.2.1 3 (by decide)).1
  obtain ⟨a1, a2, a3, a4⟩ := hB.kx (k := 31) (kd := 102) (n := 24) (by decide) (by decide)
  obtain ⟨b1, b2, b3', b4⟩ := hB.kx (k := 44) (kd := 102) (n := 8192) (by decide) (by decide)
  obtain ⟨c1, c2, c3, c4⟩ := hB.kx (k := 10) (kd := 102) (n := 256) (by decide) (by decide)
  obtain ⟨d1, d2, d3, d4⟩ := hB.kx (k := 45) (kd := 102) (n := 8192) (by decide) (by decide)
  have cl : x1.toNatClampNeg = f := by rw [z_cl, h1]; omega
  have e4 : ∀ v9 : Int32, v9 = F (A 31) i → (4 * v9).toInt = (4 * m : Nat) := fun v9 e => by
    rw [Int32.toInt_mul, z_bm, e, y3]
    simp only [Int32.reduceToInt]
    omega
  refine ⟨hB.2.1, A 31, a1, A 44, b1, b2, ?_, a2, ?_, fun v9 e9 => ⟨A 10, c1, c2, ?_, A 45, d1, d2, ?_, ?_⟩⟩
  · rw [z_in, h1]
    show _ ∧ _ < ((xb_n h (A 44) : Nat) : Int)
    omega
  · rw [z_in, mH_o b4, cl, y1]
    show _ ∧ _ < ((xb_n h (A 31) : Nat) : Int)
    omega
  · rw [mH_o b4, cl, z_cl, y1, Int.toNat_natCast, mH_o a4] at e9
    rw [z_in, e4 v9 e9]
    show _ ∧ _ < ((xb_n h (A 10) : Nat) : Int)
    omega
  · rw [z_in, h1]
    show _ ∧ _ < ((xb_n h (A 45) : Nat) : Int)
    omega
  · rw [mH_o b4, cl, z_cl, y1, Int.toNat_natCast, mH_o a4] at e9
    have i0 := im 0 (by decide)
    rw [Nat.add_zero] at i0
    have e9' : v9.toInt = m := by rw [e9]; exact y3
    refine m_typeOf (f := iM (DM m) 0 + b) hX hA.z e9' ?_ (by omega) (by omega) (fun v1 r1 g1 g2 g3 => hQ v9 v1 r1 m e9' y4 y8 (by rw [y9]; exact y10) (by omega) g1 g2 (by rw [y9]; exact g3))
    rw [mH_o c4, z_cl, e4 v9 e9, Int.toNat_natCast, mH_o d4, cl]
    exact z_ad2 i0 y5 (by omega) (by omega)
theorem m_parametersOf {x1 : Int32} (hA : rA own mm A h F v DM len rl K) (h1 : x1.toInt = f) (hf : fnO v f) (hQ : ∀ (v' : Nat → Int32) (r : Int32), vg v v' → v' 17 = 0 → r.toInt = (fPl (fun k => F (A k)) DM f).length → Qr r (mH h F mm v')) : w_M_parametersOf mm x1 (mH h F mm v) Qr := by
  unfold w_M_parametersOf
  refine ⟨fun hl => ?_, fun hl => hQ v 1 vg.rf hA.z ?_⟩
  · rw [z_lt, h1] at hl
    simp only [Int32.reduceToInt] at hl
    refine m_fnPre hA h1 (hf.elim id (fun h => by omega)) (fun v9 v1 r1 m e1 e2 e3 e4 e5 g1 g2 g3 _ => m_parameters (hA.X e2) g2 e1 g3 e4 (fun v2 r2 k2 e6 _ => hQ v2 r2 (g1.tr k2.1) k2.2.2.2 ?_))
    rw [fPl_lo e5, ptl_len, e3, e6]
  · rw [z_lt, h1] at hl
    simp only [Int32.reduceToInt] at hl
    unfold fPl
    rw [if_neg (by omega)]
    rfl
theorem m_resultTypeOf {x1 : Int32} (hA : rA own mm A h F v DM len rl K) (h1 : x1.toInt = f) (hf : fnO v f) (hQ : ∀ (v' : Nat → Int32) (r : Int32), vg v v' → v' 17 = 0 → r.toInt = fRt (fun k => F (A k)) DM f → Qr r (mH h F mm v')) : w_M_resultTypeOf mm x1 (mH h F mm v) Qr := by
  unfold w_M_resultTypeOf
  refine ⟨fun hl => ?_, fun hl => hQ v 64 vg.rf hA.z ?_⟩
  · rw [z_lt, h1] at hl
    simp only [Int32.reduceToInt] at hl
    refine m_fnPre hA h1 (hf.elim id (fun h => by omega)) (fun v9 v1 r1 m e1 e2 e3 e4 e5 g1 g2 g3 _ => m_resultOf (hA.X e2) g2 e1 g3 e4 (fun v2 r2 k2 e6 e7 _ => hQ v2 r2 (g1.tr k2) e6 ?_))
    rw [fRt_lo e5, e3, e7]
  · rw [z_lt, h1] at hl
    simp only [Int32.reduceToInt] at hl
    unfold fRt
    rw [if_neg (by omega)]
    rfl
/-- a parameter's type -/
def fPk (φ : Nat → Nat → Int32) (DM : Nat → zM) (f k : Nat) : Int := if f < 100000 then (qc (fMo φ DM f) (tPa (fMo φ DM f) (fTy φ DM f) + k)).toInt else 127 - ((f : Int) - 100000)
theorem m_parameterOf {x1 x2 : Int32} (hA : rA own mm A h F v DM len rl K) (h1 : x1.toInt = f) (hf : fnO v f) (h2 : x2.toInt = k) (hk : k < (fPl (fun k => F (A k)) DM f).length) (hQ : ∀ (v' : Nat → Int32) (r : Int32), vg v v' → v' 17 = 0 → r.toInt = fPk (fun k => F (A k)) DM f k → 124 ≤ r.toInt → r.toInt ≤ 127 → Qr r (mH h F mm v')) : w_M_parameterOf mm x1 x2 (mH h F mm v) Qr := by
  unfold w_M_parameterOf
  refine ⟨fun hl => ?_, fun hl => ?_⟩
  · rw [z_lt, h1] at hl
    simp only [Int32.reduceToInt] at hl
    refine m_fnPre hA h1 (hf.elim id (fun h => by omega)) (fun v9 v1 r1 m e1 e2 e3 e4 e5 g1 g2 g3 _ => m_parameter (hA.X e2) g2 e1 g3 e4 h2 (fun v2 r2 k2 u1 _ _ => ?_))
    rw [fPl_lo e5, ptl_len, e3] at hk
    have hR := (hA.X e2).2.2
    obtain ⟨nn, p2, k', c1, c2, c3, -⟩ := hR.ty e4
    have hty := c3 (tPa (DM m) (fTy (fun k => F (A k)) DM f) + k) (by omega) (by omega)
    obtain ⟨y1, y2, y3⟩ := ub_ty (hR.1 _) hty.1 hty.2
    have er := u1 hk
    rw [y1] at er
    refine hQ v2 r2 (g1.tr k2.1) k2.2.2.2 ?_ (by rw [er]; exact y2) (by rw [er]; exact y3)
    unfold fPk
    rw [if_pos e5, e3, er]
  · rw [z_lt, h1] at hl
    simp only [Int32.reduceToInt] at hl
    have hf2 : 100000 ≤ f ∧ f < 100004 := by
      rcases hf with h9 | h9
      · have := (hA.n (k := 43) (b := 8192) (by decide)).2
        omega
      · exact h9
    have e9 : (127 - (x1 - 100000)).toInt = 127 - ((f : Int) - 100000) := by
      rw [z_sub, z_sub, h1]
      simp only [Int32.reduceToInt]
      omega
    refine hQ v _ vg.rf hA.z ?_ (by rw [e9]; omega) (by rw [e9]; omega)
    unfold fPk
    rw [if_neg (by omega), e9]
theorem ptl_cg {cb cb' : Nat → Int32} {pa pa' : Nat} : ∀ {P : Nat}, (∀ k, k < P → (cb (pa + k)).toInt = (cb' (pa' + k)).toInt) → ptl cb pa P = ptl cb' pa' P
  | 0, _ => rfl
  | P + 1, h => by
    rw [ptl_s, ptl_s, h P (by omega), ptl_cg (fun k hk => h k (by omega))]
theorem ptl_inj {cb cb' : Nat → Int32} {pa pa' : Nat} : ∀ {P P' : Nat}, ptl cb pa P = ptl cb' pa' P' → P = P' ∧ ∀ k, k < P → (cb (pa + k)).toInt = (cb' (pa' + k)).toInt
  | 0, 0, _ => ⟨rfl, fun k hk => by omega⟩
  | 0, P' + 1, h => by cases h
  | P + 1, 0, h => by cases h
  | P + 1, P' + 1, h => by
    rw [ptl_s, ptl_s] at h
    simp only [List.cons.injEq] at h
    obtain ⟨e1, e2⟩ := ptl_inj h.2
    subst e1
    refine ⟨rfl, fun k hk => ?_⟩
    rcases Nat.lt_or_ge k P with h9 | h9
    · exact e2 k h9
    · rw [show k = P by omega]
      exact h.1
theorem m_hasTypeE {x1 x2 x3 : Int32} (hA : rA own mm A h F v DM len rl K) (h1 : x1.toInt = f) (hf : fnO v f) (h2 : x2.toInt = m) (hm : m < vN v 5) (h3 : x3.toInt = t) (ht : t < qt (DM m) 1) (hQ : ∀ (v' : Nat → Int32) (r : Int32), vg v v' → v' 17 = 0 → (r = 0 ∧ ¬ (fPl (fun k => F (A k)) DM f = ptl (qc (DM m)) (tPa (DM m) t) (tPn (DM m) t) ∧ fRt (fun k => F (A k)) DM f = tRt (DM m) t)) ∨ (r = 1 ∧ fPl (fun k => F (A k)) DM f = ptl (qc (DM m)) (tPa (DM m) t) (tPn (DM m) t) ∧ fRt (fun k => F (A k)) DM f = tRt (DM m) t) → Qr r (mH h F mm v')) : w_M_hasType mm x1 x2 x3 (mH h F mm v) Qr := by
  have hX := hA.X hm
  obtain ⟨nn, p2, k', c1, c2, c3, -⟩ := hX.2.2.ty ht
  have tyk : ∀ k, k < tPn (DM m) t → ub (qc (DM m)) (tPa (DM m) t + k) = qc (DM m) (tPa (DM m) t + k) := fun k hk => by
    have hty := c3 (tPa (DM m) t + k) (by omega) (by omega)
    exact (ub_ty (hX.2.2.1 _) hty.1 hty.2).1
  unfold w_M_hasType w_M_hasType_L50 w_M_hasType_L51
  refine ⟨fun hl => ?_, fun hl => ?_⟩
  · rw [z_lt, h1] at hl
    simp only [Int32.reduceToInt] at hl
    refine m_fnPre hA h1 (hf.elim id (fun h => by omega)) (fun v9 v1 r1 m2 e1 e2 e3 e4 e5 g1 g2 g3 _ => m_sameTypeE hX (hA.X e2) g2 h2 h3 ht e1 g3 e4 (fun v2 r2 k2 z2 hr _ => ⟨hr.imp And.left (fun h => h.1), hQ v2 r2 (g1.tr k2) z2 (hr.imp (fun ⟨y1, y2⟩ => ⟨y1, fun hS => y2 ?_⟩) (fun ⟨y1, y2, y3, y4⟩ => ⟨y1, ?_, ?_⟩))⟩))
    · have hR := (hA.X e2).2.2
      obtain ⟨nn', p2', k'', c1', c2', c3', -⟩ := hR.ty e4
      obtain ⟨hS1, hS2⟩ := hS
      rw [fPl_lo e5, e3] at hS1
      rw [fRt_lo e5, e3] at hS2
      obtain ⟨s1, s2⟩ := ptl_inj hS1
      refine ⟨s1.symm, hS2.symm, fun k hk => ?_⟩
      have hty := c3' (tPa (DM m2) (fTy (fun k => F (A k)) DM f) + k) (by omega) (by omega)
      rw [tyk k hk, (ub_ty (hR.1 _) hty.1 hty.2).1, z_eq, s2 k (by omega)]
    · rw [fPl_lo e5, e3, ← y2]
      have hR := (hA.X e2).2.2
      obtain ⟨nn', p2', k'', c1', c2', c3', -⟩ := hR.ty e4
      refine (ptl_cg (fun k hk => ?_)).symm
      have hty := c3' (tPa (DM m2) (fTy (fun k => F (A k)) DM f) + k) (by omega) (by omega)
      rw [← tyk k hk, y4 k hk, (ub_ty (hR.1 _) hty.1 hty.2).1]
    · rw [fRt_lo e5, e3, ← y3]
  · rw [z_lt, h1] at hl
    simp only [Int32.reduceToInt] at hl
    have no : ∀ v2 : Nat → Int32, vg v v2 → v2 17 = 0 → ¬ (fPl (fun k => F (A k)) DM f = ptl (qc (DM m)) (tPa (DM m) t) (tPn (DM m) t) ∧ fRt (fun k => F (A k)) DM f = tRt (DM m) t) → ((0 : Int32) = 0 ∨ (0 : Int32) = 1) ∧ Qr 0 (mH h F mm v2) := fun v2 g1 g2 g3 => ⟨.inl rfl, hQ v2 0 g1 g2 (.inl ⟨rfl, g3⟩)⟩
    have hf2 : 100000 ≤ f ∧ f < 100004 := by
      rcases hf with h9 | h9
      · have := (hA.n (k := 43) (b := 8192) (by decide)).2
        omega
      · exact h9
    have hS1 : (fPl (fun k => F (A k)) DM f = ptl (qc (DM m)) (tPa (DM m) t) (tPn (DM m) t) ∧ fRt (fun k => F (A k)) DM f = tRt (DM m) t) → tPn (DM m) t = 1 ∧ (qc (DM m) (tPa (DM m) t + 0)).toInt = 127 - ((f : Int) - 100000) ∧ tRt (DM m) t = 64 := fun hS => by
      obtain ⟨s1, s2⟩ := hS
      unfold fPl at s1
      unfold fRt at s2
      rw [if_neg (by omega)] at s1 s2
      have s3 := congrArg List.length s1
      rw [ptl_len] at s3
      have s4 : tPn (DM m) t = 1 := s3.symm
      rw [s4, ptl_s] at s1
      simp only [List.cons.injEq] at s1
      exact ⟨s4, s1.1.symm, s2.symm⟩
    refine ⟨hA.B.2.1, m_parameters hX hA.z h2 h3 ht (fun v1 r1 k1 e1 _ => ⟨fun hne => no v1 k1.1 k1.2.2.2 (fun hS => hne (z_eq.mpr (by rw [e1, (hS1 hS).1]; rfl))), fun er => m_parameter (k := 0) hX k1.2.2.2 h2 h3 ht rfl (fun v2 r2 k2 u1 _ _ => ⟨fun hne => no v2 (k1.1.tr k2.1) k2.2.2.2 (fun hS => hne (z_eq.mpr (by rw [u1 (by have := (hS1 hS).1; omega), tyk 0 (by have := (hS1 hS).1; omega), (hS1 hS).2.1, z_sub, z_sub, h1]; simp only [Int32.reduceToInt]; omega))), fun er2 => m_resultOf hX k2.2.2.2 h2 h3 ht (fun v3 r3 k3 z3 e3 _ => ⟨fun hne => no v3 ((k1.1.tr k2.1).tr k3) z3 (fun hS => hne (z_eq.mpr (by rw [e3, (hS1 hS).2.2]; rfl))), fun er3 => ⟨.inr rfl, hQ v3 1 ((k1.1.tr k2.1).tr k3) z3 (.inr ⟨rfl, ?_, ?_⟩)⟩⟩)⟩)⟩)⟩
    · have en : tPn (DM m) t = 1 := by
        rw [er] at e1
        have : (1 : Int32).toInt = 1 := rfl
        omega
      have e0 := u1 (by omega)
      rw [tyk 0 (by omega), er2] at e0
      unfold fPl
      rw [if_neg (by omega), en, ptl_s, ← e0, z_sub, z_sub, h1]
      simp only [Int32.reduceToInt]
      have hf2 : 100000 ≤ f ∧ f < 100004 := by
        rcases hf with h9 | h9
        · have := (hA.n (k := 43) (b := 8192) (by decide)).2
          omega
        · exact h9
      show _ = _ :: []
      congr 1
      omega
    · unfold fRt
      rw [if_neg (by omega), ← e3, er3]
      rfl
theorem m_hasType {x1 x2 x3 : Int32} (hA : rA own mm A h F v DM len rl K) (h1 : x1.toInt = f) (hf : fnO v f) (h2 : x2.toInt = m) (hm : m < vN v 5) (h3 : x3.toInt = t) (ht : t < qt (DM m) 1) (hQ : ∀ (v' : Nat → Int32) (r : Int32), vg v v' → v' 17 = 0 → r = 0 ∨ (r = 1 ∧ fPl (fun k => F (A k)) DM f = ptl (qc (DM m)) (tPa (DM m) t) (tPn (DM m) t) ∧ fRt (fun k => F (A k)) DM f = tRt (DM m) t) → Qr r (mH h F mm v')) : w_M_hasType mm x1 x2 x3 (mH h F mm v) Qr :=
  m_hasTypeE hA h1 hf h2 hm h3 ht (fun v' r g1 g2 hr => hQ v' r g1 g2 (hr.imp And.left id))
end MI1
