-- equality: the class's checker, exact: an instruction
def tpZ (vs : Nat → Nat → Int64) (cb : Nat → Int32) (u : Nat) (f : s5) (cur : List Int) (g : Int) (fs : List s5) : Except Nat cO := (tkL f cur (ptl cb (vs 0 (5 * u + 1)).toInt.toNat (vs 0 (5 * u + 2)).toInt.toNat)).bind (fun c => .ok (ptC c g (vs 0 (5 * u + 4)).toInt fs))
def clZ (n : Nat → Nat) (vs : Nat → Nat → Int64) (cb : Nat → Int32) (f : s5) (cur : List Int) (g : Int) (fs : List s5) (op y : Nat) : Except Nat cO :=
  if op = 16 then (if y < n 2 / 2 then tpZ vs cb (vs 2 (2 * y + 1)).toInt.toNat f cur g fs else .error 20)
  else if op = 17 then (if 0 < n 3 / 3 then (if y < n 0 / 5 then (tkO f cur 127).bind (fun a => tpZ vs cb y f a.2 g fs) else .error 20) else .error 20)
  else if op = 26 then (tkO f cur 0).bind (fun a => .ok (a.2, fs, g))
  else (tkO f cur 127).bind (fun a => (tkO f a.2 0).bind (fun b => (tkO f b.2 b.1).bind (fun c => .ok (ptC c.2 g (if b.1 = 0 then c.1 else b.1) fs))))
/-- the check of the instruction at q, by what the class holds -/
noncomputable def ckZ (n : Nat → Nat) (vs : Nat → Nat → Int64) (cb lo : Nat → Int32) (pa P t lcn : Nat) (ν : Nat → Int32) (q op : Nat) (cur : List Int) (f : s5) (r : List s5) (g : Int) : Except Nat cO :=
  if 69 ≤ op then ckN f cur g (f :: r) op else if 65 ≤ op then .ok (ptC cur g (192 - (op : Int)) (f :: r)) else if 40 ≤ op then ckMm (0 < n 4 / 3) f cur g (f :: r) op (ν (q + 1)).toBitVec.toNat
  else if 32 ≤ op then ckPl (P + lcn) (n 5 / 4) (ck_lt cb lo pa P) (fun i => (vs 5 (4 * i + 1)).toInt) (fun i => (vs 5 (4 * i + 2)).toInt) f cur g (f :: r) op (ν (q + 1)).toBitVec.toNat else if 16 ≤ op then clZ n vs cb f cur g (f :: r) op (ν (q + 1)).toBitVec.toNat
  else ckFl f cur g r op (ν (q + 1)).toBitVec.toNat (cb (q + 1)).toInt (fun k => (ν (q + 2 + k)).toBitVec.toNat) (vs 0 (5 * t + 4)).toInt
section
variable {n : Nat → Nat} {vs : Nat → Nat → Int64} {cb lo ν : Nat → Int32} {pa P t lcn q op y : Nat} {cur : List Int} {f : s5} {r fs : List s5} {g bt rt : Int} {ls : Nat → Nat}
theorem ckFl_00 (h : op = 0) : ckFl f cur g r op y bt ls rt = .ok (s5b f, die5 f :: r, g) := by
  subst h
  rfl
theorem ckFl_01 (h : op = 1) : ckFl f cur g r op y bt ls rt = .ok (cur, f :: r, g) := by
  subst h
  rfl
theorem ckZ_n (h : 69 ≤ op) : ckZ n vs cb lo pa P t lcn ν q op cur f r g = ckN f cur g (f :: r) op := if_pos h
theorem ckZ_k (h : 65 ≤ op ∧ op ≤ 68) : ckZ n vs cb lo pa P t lcn ν q op cur f r g = .ok (ptC cur g (192 - (op : Int)) (f :: r)) := by
  unfold ckZ
  rw [if_neg (by omega), if_pos (by omega)]
theorem ckZ_m (h : 40 ≤ op ∧ op ≤ 64) : ckZ n vs cb lo pa P t lcn ν q op cur f r g = ckMm (0 < n 4 / 3) f cur g (f :: r) op (ν (q + 1)).toBitVec.toNat := by
  unfold ckZ
  rw [if_neg (by omega), if_neg (by omega), if_pos (by omega)]
theorem ckZ_p (h : 32 ≤ op ∧ op < 40) : ckZ n vs cb lo pa P t lcn ν q op cur f r g = ckPl (P + lcn) (n 5 / 4) (ck_lt cb lo pa P) (fun i => (vs 5 (4 * i + 1)).toInt) (fun i => (vs 5 (4 * i + 2)).toInt) f cur g (f :: r) op (ν (q + 1)).toBitVec.toNat := by
  unfold ckZ
  rw [if_neg (by omega), if_neg (by omega), if_neg (by omega), if_pos (by omega)]
theorem ckZ_c (h : 16 ≤ op ∧ op < 32) : ckZ n vs cb lo pa P t lcn ν q op cur f r g = clZ n vs cb f cur g (f :: r) op (ν (q + 1)).toBitVec.toNat := by
  unfold ckZ
  rw [if_neg (by omega), if_neg (by omega), if_neg (by omega), if_neg (by omega), if_pos (by omega)]
theorem ckZ_f (h : op < 16) : ckZ n vs cb lo pa P t lcn ν q op cur f r g = ckFl f cur g r op (ν (q + 1)).toBitVec.toNat (cb (q + 1)).toInt (fun k => (ν (q + 2 + k)).toBitVec.toNat) (vs 0 (5 * t + 4)).toInt := by
  unfold ckZ
  rw [if_neg (by omega), if_neg (by omega), if_neg (by omega), if_neg (by omega), if_neg (by omega)]
theorem clZ_16 (h : op = 16) (hy : y < n 2 / 2) : clZ n vs cb f cur g fs op y = tpZ vs cb (vs 2 (2 * y + 1)).toInt.toNat f cur g fs := by
  unfold clZ
  rw [if_pos h, if_pos hy]
theorem clZ_16n (h : op = 16) (hy : ¬ y < n 2 / 2) : clZ n vs cb f cur g fs op y = .error 20 := by
  unfold clZ
  rw [if_pos h, if_neg hy]
theorem clZ_17 (h : op = 17) (hy : 0 < n 3 / 3) : clZ n vs cb f cur g fs op y = if y < n 0 / 5 then (tkO f cur 127).bind (fun a => tpZ vs cb y f a.2 g fs) else .error 20 := by
  unfold clZ
  rw [if_neg (by omega), if_pos h, if_pos hy]
theorem clZ_17n (h : op = 17) (hy : ¬ 0 < n 3 / 3) : clZ n vs cb f cur g fs op y = .error 20 := by
  unfold clZ
  rw [if_neg (by omega), if_pos h, if_neg hy]
theorem clZ_26 (h : op = 26) : clZ n vs cb f cur g fs op y = (tkO f cur 0).bind (fun a => .ok (a.2, fs, g)) := by
  unfold clZ
  rw [if_neg (by omega), if_neg (by omega), if_pos h]
theorem clZ_27 (h : op = 27) : clZ n vs cb f cur g fs op y = (tkO f cur 127).bind (fun a => (tkO f a.2 0).bind (fun b => (tkO f b.2 b.1).bind (fun c => .ok (ptC c.2 g (if b.1 = 0 then c.1 else b.1) fs)))) := by
  unfold clZ
  rw [if_neg (by omega), if_neg (by omega), if_neg (by omega)]
end
section CCB
variable {S : Nat → Prop} {h0 h : xb_H} {md rd op ck cd nt im N oa rc rs b : Nat} {ca : Nat → Nat} {rw it n : Nat → Nat} {vs : Nat → Nat → Int64} {cb ν iv lo : Nat → Int32} {R0 F : Nat → Nat → Int32} {bc bs : Nat} {Qt : String → xb_H → Nat → Nat → Prop} {cur : List Int} {fs r : List ckF} {f : ckF} {g p lc ty : Int} {C : Option (Nat × Nat)} {R : Except Nat cO}
theorem cz_checkInstruction {x : Int32} {q t lcn : Nat} {ex : List Int} {Qr : xb_H → Nat → Nat → Prop} (lv : Bool) (hT : ckT S h0 md rd op ck ca rc rs b C Qt) (hH : ck_H S h0 h md rd op ck cd nt im N oa ca rw it n vs cb iv R0) (hF : ck_Fr S h0 h F) (hc : rc + 1 ≤ bc) (hb : rs + 6 ≤ bs) (hS : ck_S ck oa nt cd im ca rw R0 cb iv F cur (f :: r) ν lo g q lcn t) (hcl : (cur.length : Int) ≤ N) (hg : g ≤ 100000) (hfl : (f :: r).length ≤ 201)
    (hex : cur = ex ++ fb f) (hty : ∀ y ∈ cur, ck_t y) (hlb : ∀ y ∈ f :: r, fl_ y = 64 ∨ 124 ≤ fl_ y ∧ fl_ y ≤ 127) (hfe : fe f = 64 ∨ 124 ≤ fe f ∧ fe f ≤ 127)
    (hL : xr_L 5 (mp0 N cb) (n 0) (vs 0)) (ht : t < n 0 / 5) (hlc : lcn ≤ 1000) (hlo : ∀ j, j < lcn → 124 ≤ (lo j).toInt ∧ (lo j).toInt ≤ 127)
    (hv : ∀ i : Nat, i < n 5 / 4 → 4 * i + 4 ≤ n 5 ∧ 124 ≤ (vs 5 (4 * i + 1)).toInt ∧ (vs 5 (4 * i + 1)).toInt ≤ 127 ∧ ((vs 5 (4 * i + 2)).toInt = 0 ∨ (vs 5 (4 * i + 2)).toInt = 1))
    (hfn : ∀ i, i < n 2 / 2 → 2 * i + 2 ≤ n 2 ∧ 0 ≤ (vs 2 (2 * i + 1)).toInt ∧ (vs 2 (2 * i + 1)).toInt < (n 0 / 5 : Nat)) (hn0 : n 0 ≤ 2 * N)
    (hx0 : wk_sh x.toInt ≠ 13) (hx1 : 0 ≤ x.toInt) (hx2 : x.toInt ≤ 191) (hq1 : wk_sh x.toInt = 1 ∨ 4 ≤ wk_sh x.toInt → q + 1 < N) (hop : wk_sh x.toInt = 1 → (f :: r).length ≤ 200) (hqL : x.toInt = 14 → ∃ L : Nat, (ν (q + 1)).toInt = L ∧ q + 2 + L < N) {o pa0 P0 : Nat} (hxo : x.toInt = o) (hpa0 : (vs 0 (5 * t + 1)).toInt = pa0) (hP0 : (vs 0 (5 * t + 2)).toInt = P0) (hRC : rcC C R q b) (hR : R = ckZ n vs cb lo pa0 P0 t lcn ν q o cur (sp5 f) (r.map sp5) g)
    (hQ : ∀ (F' : Nat → Nat → Int32) (cur' : List Int) (fs' : List ckF) (ν' : Nat → Int32) (g' : Int), ck_st n vs cb lo t lcn lv q x.toInt cur f r ν g cur' fs' ν' g' → ck_Fr S h0 h F' → ck_S ck oa nt cd im ca rw R0 cb iv F' cur' fs' ν' lo g' q lcn t → R = .ok (cur', fs'.map sp5, g') → Qr (xb_W h F') bc bs) : w_Checker_checkInstruction ck x (xb_W h F) bc bs Qr Qt := by
  obtain ⟨⟨s1, s2, s3, s4, s5, s6⟩, so, sf, s7, s8, s9, s10, s11, s12⟩ := id hS
  obtain ⟨-, hM', ⟨r0, r1, r2, r3, ko, lo1, lo2⟩, hD, ⟨S1, S2, S3⟩, kck, kmd, ha, hN, ⟨knt, nnt, kcd, ncd⟩⟩ := id hH
  have hM := hM' F ν s7 s9 s10 s11
  have a3 : xb_r h ck 12 = some (ca 3) ∧ xb_k h (ca 3) = 102 ∧ xb_n h (ca 3) = 201 ∧ S (ca 3) := ha 3 (by omega)
  have zn := z_nat (ν (q + 1))
  have zr := z_rg (ν (q + 1))
  have Rf : ∀ {X : Except Nat cO}, o < 16 → ckFl (sp5 f) cur g (r.map sp5) o (ν (q + 1)).toBitVec.toNat (cb (q + 1)).toInt (fun k => (ν (q + 2 + k)).toBitVec.toNat) (vs 0 (5 * t + 4)).toInt = X → R = X := fun h1 h2 => hR.trans ((ckZ_f h1).trans h2)
  have Rc : ∀ {X : Except Nat cO}, 16 ≤ o ∧ o < 32 → clZ n vs cb (sp5 f) cur g ((f :: r).map sp5) o (ν (q + 1)).toBitVec.toNat = X → R = X := fun h1 h2 => hR.trans ((ckZ_c h1).trans h2)
  have tyP : ∀ u : Nat, u < n 0 / 5 → (vs 0 (5 * u + 1)).toInt = ((vs 0 (5 * u + 1)).toInt.toNat : Nat) ∧ (vs 0 (5 * u + 2)).toInt = ((vs 0 (5 * u + 2)).toInt.toNat : Nat) := fun u hu => by
    obtain ⟨pp, -⟩ := hL.at (by omega) hu
    dsimp only [mp0] at pp
    obtain ⟨p0, p1, p2, p3, p4, -⟩ := pp
    omega
  unfold w_Checker_checkInstruction w_Checker_checkInstruction_L67
  refine ⟨fun h1 => ⟨fun h2 => ⟨fun h3 => ⟨fun h4 => ⟨kck, ?_⟩, fun h4 => ⟨kck, ?_⟩⟩, fun h3 => ⟨kck, ?_⟩⟩, fun h2 => ⟨kck, ?_⟩⟩, fun h1 => ⟨kck, ?_⟩⟩
  · rw [z_lt] at h4
    simp only [Int32.reduceToInt] at h4
    have e91 : q + 1 < N → (F ck 9 + 1).toInt = (q + 1 : Nat) := fun h9 => z_inc s5 (by omega)
    have c91 : q + 1 < N → (F ck 9 + 1).toNatClampNeg = q + 1 := fun h9 => by rw [z_cl, e91 h9]; omega
    have shc : x.toInt = 12 ∨ x.toInt = 13 ∨ x.toInt = 14 ∨ x.toInt = 16 ∨ x.toInt = 17 → 4 ≤ wk_sh x.toInt := by
      intro h9
      rcases h9 with h9 | h9 | h9 | h9 | h9 <;> (rw [h9]; decide)
    have sho : x.toInt = 2 ∨ x.toInt = 3 ∨ x.toInt = 4 → wk_sh x.toInt = 1 := by
      intro h9
      rcases h9 with h9 | h9 | h9 <;> (rw [h9]; decide)
    have bad : (x.toInt = 6 ∨ x.toInt = 7 ∨ x.toInt = 8 ∨ x.toInt = 9 ∨ x.toInt = 10) ∨ (x.toInt = 18 ∨ x.toInt = 19 ∨ x.toInt = 20 ∨ x.toInt = 21 ∨ x.toInt = 22 ∨ x.toInt = 23 ∨ x.toInt = 24 ∨ x.toInt = 25) ∨ x.toInt = 28 ∨ x.toInt = 29 ∨ x.toInt = 30 ∨ x.toInt = 31 → False := by
      intro h9
      apply hx0
      rcases h9 with (h9 | h9 | h9 | h9 | h9) | (h9 | h9 | h9 | h9 | h9 | h9 | h9 | h9) | h9 | h9 | h9 | h9 <;> (rw [h9]; decide)
    have opn : x.toInt = 2 ∨ x.toInt = 3 ∨ x.toInt = 4 → w_Checker_checkControl_L135 (fun (h6 : xb_H) (bc7 bs7 : Nat) => xb_ext (xb_W h F) h6 → Qr h6 bc7 bs7) Qt ck x (xb_W h F) bc bs := by
      intro h9
      have R23 : x.toInt ≠ 4 → R = .ok (cur, (x.toInt, (if x.toInt = 3 then 64 else (cb (q + 1)).toInt), (cb (q + 1)).toInt, cur, 0) :: (f :: r).map sp5, g) := fun h8 => by
        refine Rf (by omega) ((ckFl_23 (by omega)).trans ?_)
        have : o = 2 ∨ o = 3 := by omega
        rw [hxo]
        rcases this with h7 | h7 <;> subst h7 <;> rfl
      unfold w_Checker_checkControl_L135 w_Checker_checkControl_L373
      refine ⟨kck, cz_checkOpening lv hT hH hF hc hb hS hcl hg hfl (hop (sho h9)) (hq1 (.inl (sho h9))) h9 hRC R23 (fun h8 => Rf (by omega) (ckFl_4 (by omega))) (fun F1 c1 w g1 g2 g3 hF1 hS1 R1 _ _ => hQ F1 c1 _ _ g ⟨fun e => by omega, fun e => by omega, fun _ _ => ⟨w, g1, g2, g3, rfl, rfl, rfl⟩, fun e => by omega, fun e => by omega, fun e => by omega, fun e => by omega, fun e => by omega, fun e => by omega, fun e => by omega, fun e => by omega, fun e => by omega, fun e => by omega, fun e _ => by omega, fun e _ => by omega, fun e _ => by omega, fun e _ => by omega, fun e => by omega⟩ hF1 hS1 R1)⟩
    unfold w_Checker_checkControl w_Checker_checkControl_L373
    refine ⟨fun e => ?_, fun e => ?_, fun e => ?_, fun e => ?_, fun e => ?_, fun e => ?_, fun e => ?_, fun e => ?_, fun e => ?_, fun e => ?_, fun e => ?_, fun e => ?_, fun e => ?_, fun e => ?_, fun e => ?_, fun e => ?_, fun e => ?_, fun e => ?_, fun e => ?_, fun e => ?_, fun e => ?_, fun e => ?_, fun e => ?_, fun e => ?_, fun e => ?_, fun e => ?_, fun e => ?_, fun e => ?_, fun a0 a1 a2 a3' a4 a5 a6 a7 a8 a9 a10 a11 a12 a13 a14 a15 a16 a17 a18 a19 a20 a21 a22 a23 a24 a25 a26 a27 => ?_⟩
    · rw [z_eq] at e
      simp only [Int32.reduceToInt] at e
      exact ⟨kck, cs_die hH hF hS hex hfl (fun F1 hF1 hS1 _ _ => hQ F1 _ _ ν g ⟨fun _ => ⟨rfl, rfl, rfl, rfl⟩, fun e => by omega, fun e _ => by omega, fun e => by omega, fun e => by omega, fun e => by omega, fun e => by omega, fun e => by omega, fun e => by omega, fun e => by omega, fun e => by omega, fun e => by omega, fun e => by omega, fun e _ => by omega, fun e _ => by omega, fun e _ => by omega, fun e _ => by omega, fun e => by omega⟩ hF1 hS1 (Rf (by omega) (ckFl_00 (by omega))))⟩
    · rw [z_eq] at e
      simp only [Int32.reduceToInt] at e
      exact fun _ => hQ F cur (f :: r) ν g ⟨fun e => by omega, fun _ => ⟨rfl, rfl, rfl, rfl⟩, fun e _ => by omega, fun e => by omega, fun e => by omega, fun e => by omega, fun e => by omega, fun e => by omega, fun e => by omega, fun e => by omega, fun e => by omega, fun e => by omega, fun e => by omega, fun e _ => by omega, fun e _ => by omega, fun e _ => by omega, fun e _ => by omega, fun e => by omega⟩ hF hS (Rf (by omega) (ckFl_01 (by omega)))
    · rw [z_eq] at e
      simp only [Int32.reduceToInt] at e
      exact opn (by omega)
    · rw [z_eq] at e
      simp only [Int32.reduceToInt] at e
      exact opn (by omega)
    · rw [z_eq] at e
      simp only [Int32.reduceToInt] at e
      exact opn (by omega)
    · rw [z_eq] at e
      simp only [Int32.reduceToInt] at e
      exact ⟨kck, cz_checkElse lv (X := .ok (fb f, ((5, fa f, fe f, fe f, fb f, 0, lv) :: r).map sp5, g)) hT hH hF hc hb hS hcl hg hfl hex hRC (Rf (by omega) (ckFl_5 (by omega))) (fun F1 r3 t1 hF1 hS1 R1 _ _ => hQ F1 _ _ ν g ⟨fun e => by omega, fun e => by omega, fun e _ => by omega, fun _ => ⟨⟨r3, t1⟩, rfl, rfl, rfl, rfl⟩, fun e => by omega, fun e => by omega, fun e => by omega, fun e => by omega, fun e => by omega, fun e => by omega, fun e => by omega, fun e => by omega, fun e => by omega, fun e _ => by omega, fun e _ => by omega, fun e _ => by omega, fun e _ => by omega, fun e => by omega⟩ hF1 hS1 R1)⟩
    · rw [z_eq] at e
      simp only [Int32.reduceToInt] at e
      exact absurd (by omega) bad
    · rw [z_eq] at e
      simp only [Int32.reduceToInt] at e
      exact absurd (by omega) bad
    · rw [z_eq] at e
      simp only [Int32.reduceToInt] at e
      exact absurd (by omega) bad
    · rw [z_eq] at e
      simp only [Int32.reduceToInt] at e
      exact absurd (by omega) bad
    · rw [z_eq] at e
      simp only [Int32.reduceToInt] at e
      exact absurd (by omega) bad
    · rw [z_eq] at e
      simp only [Int32.reduceToInt] at e
      exact ⟨kck, cz_checkEnd hT hH hF hc hb hS hcl hg hfl hex hfe hRC (Rf (by omega) (ckFl_11 (by omega))) (fun F1 r3 g' cur' t1 t2 t3 hF1 hS1 R1 _ _ => hQ F1 cur' r ν g' ⟨fun e => by omega, fun e => by omega, fun e _ => by omega, fun e => by omega, fun _ => ⟨⟨r3, t1⟩, t2, t3, rfl, rfl⟩, fun e => by omega, fun e => by omega, fun e => by omega, fun e => by omega, fun e => by omega, fun e => by omega, fun e => by omega, fun e => by omega, fun e _ => by omega, fun e _ => by omega, fun e _ => by omega, fun e _ => by omega, fun e => by omega⟩ hF1 hS1 R1)⟩
    · rw [z_eq] at e
      simp only [Int32.reduceToInt] at e
      have hq' := hq1 (.inr (shc (by omega)))
      refine ⟨kck, ca 3, a3.1, cz_checkLabel (K := fun l => (tkO (sp5 f) cur l).bind (fun _ => .ok (fb f, (fdie f :: r).map sp5, g))) hT hH hF hc hb hS (e91 hq') hq' hfl hRC (Rf (by omega) (ckFl_12 (by omega))) (fun u F1 i f' w b1 b2 b3 b4 b5 b6 hF1 hS1 R1 _ => ⟨a3.2.1, by rw [z_in, b3, xW_n, a3.2.2.1]; omega, ?_⟩)⟩
      rw [xW_i, z_cl, b3, Int.toNat_natCast]
      refine cz_take (K := fun _ => .ok (fb f, (fdie f :: r).map sp5, g)) hT hH hF1 hc hb hS1 hcl hfl hRC (by rw [b6]; exact R1) (fun u2 F2 c2 t2 hF2 hS2 R2 _ => ?_)
      obtain ⟨ex2, he2⟩ := t2.lt hex
      rw [b6] at t2
      exact cs_die hH hF2 hS2 he2 hfl (fun F3 hF3 hS3 _ _ => hQ F3 _ _ _ g ⟨fun e => by omega, fun e => by omega, fun e _ => by omega, fun e => by omega, fun e => by omega, fun _ => ⟨i, f', w, u2.toInt, c2, b1, b2, b5, t2, rfl, rfl, rfl, rfl⟩, fun e => by omega, fun e => by omega, fun e => by omega, fun e => by omega, fun e => by omega, fun e => by omega, fun e => by omega, fun e _ => by omega, fun e _ => by omega, fun e _ => by omega, fun e _ => by omega, fun e => by omega⟩ hF3 hS3 R2)
    · rw [z_eq] at e
      simp only [Int32.reduceToInt] at e
      exact ⟨kck, cz_checkBranchIf hT hH hF hc hb hS hcl hg hfl (hq1 (.inr (shc (by omega)))) hlb hRC (Rf (by omega) (ckFl_13 (by omega))) (fun F1 i f' w c1 c2 cur' r1 r2 g' b1 b2 b3 t1 t2 t3 hF1 hS1 R1 _ _ => hQ F1 cur' _ _ g' ⟨fun e => by omega, fun e => by omega, fun e _ => by omega, fun e => by omega, fun e => by omega, fun e => by omega, fun _ => ⟨i, f', w, c1, c2, r1, r2, b1, b2, b3, t1, t2, t3, rfl, rfl⟩, fun e => by omega, fun e => by omega, fun e => by omega, fun e => by omega, fun e => by omega, fun e => by omega, fun e _ => by omega, fun e _ => by omega, fun e _ => by omega, fun e _ => by omega, fun e => by omega⟩ hF1 hS1 R1)⟩
    · rw [z_eq] at e
      simp only [Int32.reduceToInt] at e
      obtain ⟨L, hL1, hL2⟩ := hqL e
      exact ⟨kck, cz_checkLabels hT hH hF hc hb hS hcl hg hfl hex hL2 hL1 hRC (X := .ok (fb f, (fdie f :: r).map sp5, g)) (by rw [← show (ν (q + 1)).toBitVec.toNat = L by omega]; exact Rf (by omega) (ckFl_14 (by omega))) (fun F1 ν' lab c1 c2 r1 r2 b1 b2 t1 t2 hF1 hS1 R1 _ _ => hQ F1 _ _ ν' g ⟨fun e => by omega, fun e => by omega, fun e _ => by omega, fun e => by omega, fun e => by omega, fun e => by omega, fun e => by omega, fun _ => ⟨L, lab, c1, c2, r1, r2, hL1, b1, b2, t1, t2, rfl, rfl, rfl⟩, fun e => by omega, fun e => by omega, fun e => by omega, fun e => by omega, fun e => by omega, fun e _ => by omega, fun e _ => by omega, fun e _ => by omega, fun e _ => by omega, fun e => by omega⟩ hF1 hS1 R1)⟩
    · rw [z_eq] at e
      simp only [Int32.reduceToInt] at e
      refine ⟨kck, md, r0, kmd, md_resultType hM hL s4 ht (fun r46 e46 _ _ => cz_take (K := fun _ => .ok (fb f, (fdie f :: r).map sp5, g)) hT hH hF hc hb hS hcl hfl hRC (by rw [e46]; exact Rf (by omega) (ckFl_15 (by omega))) (fun u2 F2 c2 t2 hF2 hS2 R2 _ => ?_))⟩
      obtain ⟨ex2, he2⟩ := t2.lt hex
      rw [e46] at t2
      exact cs_die hH hF2 hS2 he2 hfl (fun F3 hF3 hS3 _ _ => hQ F3 _ _ _ g ⟨fun e => by omega, fun e => by omega, fun e _ => by omega, fun e => by omega, fun e => by omega, fun e => by omega, fun e => by omega, fun e => by omega, fun _ => ⟨⟨u2.toInt, c2, t2⟩, rfl, rfl, rfl, rfl⟩, fun e => by omega, fun e => by omega, fun e => by omega, fun e => by omega, fun e _ => by omega, fun e _ => by omega, fun e _ => by omega, fun e _ => by omega, fun e => by omega⟩ hF3 hS3 R2)
    · rw [z_eq] at e
      simp only [Int32.reduceToInt] at e
      have hq' := hq1 (.inr (shc (by omega)))
      have e91' := e91 hq'
      have c91' := c91 hq'
      refine ⟨kck, nt, r2, knt, by rw [z_in, xW_i, e91', xW_n, nnt]; omega, md, r0, kmd, rw 2, hM.row (by omega), hM.krow (by omega), md_lines (c := 2) hM (by omega) rfl (by omega) (fun r61 e61 _ => ?_)⟩
      rw [xW_i, s7, c91']
      refine sp_isThere (fun r63 e63 _ => cz_require (K := tpZ vs cb (vs 2 (2 * (ν (q + 1)).toBitVec.toNat + 1)).toInt.toNat (sp5 f) cur g ((f :: r).map sp5)) (c := 20) hT hH hF hc hb s5 hRC rfl ⟨fun w1 => ?_, fun w1 => ?_⟩ (fun w1 R1 _ => ⟨md, r0, nt, r2, knt, by rw [z_in, xW_i, e91', xW_n, nnt]; omega, kmd, ?_⟩))
      · rcases e63 with ⟨w2, -⟩ | ⟨-, w2, w3⟩
        · exact absurd w2 w1
        rw [Z_of32] at w2 w3
        rw [e61] at w3
        exact Rc (by omega) (clZ_16 (by omega) (by omega))
      · rcases e63 with ⟨-, w2⟩ | ⟨w2, -⟩
        · rw [Z_of32, e61] at w2
          have := z_rg r61
          exact Rc (by omega) (clZ_16n (by omega) (by omega))
        · rw [w1] at w2
          exact absurd w2 (by decide)
      rcases e63 with ⟨w2, -⟩ | ⟨-, w2, w3⟩
      · exact absurd w2 w1
      rw [Z_of32] at w2 w3
      rw [e61] at w3
      obtain ⟨i, hi⟩ : ∃ i : Nat, (ν (q + 1)).toInt = i := ⟨(ν (q + 1)).toInt.toNat, by omega⟩
      obtain ⟨b1, b2, b3⟩ := hfn i (by omega)
      obtain ⟨u, hu⟩ : ∃ u : Nat, (vs 2 (2 * i + 1)).toInt = u := ⟨(vs 2 (2 * i + 1)).toInt.toNat, by omega⟩
      rw [xW_i, s7, c91']
      rw [show (ν (q + 1)).toBitVec.toNat = i by omega, show (vs 2 (2 * i + 1)).toInt.toNat = u by omega] at R1
      exact md_typeOf hM hi b1 b2 (by omega) (fun r72 e72 _ => cz_checkCall hT hH hF hc hb hS hcl hg hfl hL (e72.trans hu) (by omega) (tyP u (by omega)).1 (tyP u (by omega)).2 hRC R1 (fun F1 c1 cur' g' pa P d1 d2 t1 t2 hF1 hS1 R2 _ _ => hQ F1 cur' _ ν g' ⟨fun e => by omega, fun e => by omega, fun e _ => by omega, fun e => by omega, fun e => by omega, fun e => by omega, fun e => by omega, fun e => by omega, fun e => by omega, fun _ => ⟨i, u, pa, P, c1, hi, by omega, hu, d1, d2, t1, t2, rfl, rfl⟩, fun e => by omega, fun e => by omega, fun e => by omega, fun e _ => by omega, fun e _ => by omega, fun e _ => by omega, fun e _ => by omega, fun e => by omega⟩ hF1 hS1 R2))
    · rw [z_eq] at e
      simp only [Int32.reduceToInt] at e
      have hq' := hq1 (.inr (shc (by omega)))
      have e91' := e91 hq'
      have c91' := c91 hq'
      have L296 : ∀ y : Int32, (¬ y = 0 → 0 < n 3 / 3) → (y = 0 → ¬ 0 < n 3 / 3) → w_Checker_checkControl_L296 (fun (h6 : xb_H) (bc7 bs7 : Nat) => xb_ext (xb_W h F) h6 → Qr h6 bc7 bs7) Qt ck y ck (xb_W h F) bc bs := by
        intro y hy hy0
        unfold w_Checker_checkControl_L296 w_Checker_checkControl_L373
        refine ⟨kck, cz_require (K := if (ν (q + 1)).toBitVec.toNat < n 0 / 5 then (tkO (sp5 f) cur 127).bind (fun a => tpZ vs cb (ν (q + 1)).toBitVec.toNat (sp5 f) a.2 g ((f :: r).map sp5)) else .error 20) (c := 20) hT hH hF hc hb s5 hRC rfl ⟨fun h9 => Rc (by omega) (clZ_17 (by omega) (hy h9)), fun h9 => Rc (by omega) (clZ_17n (by omega) (hy0 h9))⟩ (fun y0 R1 _ => ⟨kck, nt, r2, knt, by rw [z_in, xW_i, e91', xW_n, nnt]; omega, md, r0, kmd, rw 0, hM.row (by omega), hM.krow (by omega), md_lines (c := 5) hM (by omega) rfl (by omega) (fun r13 e13 _ => ?_)⟩)⟩
        rw [xW_i, s7, c91']
        refine sp_isThere (fun r15 e15 _ => cz_require (K := (tkO (sp5 f) cur 127).bind (fun a => tpZ vs cb (ν (q + 1)).toBitVec.toNat (sp5 f) a.2 g ((f :: r).map sp5))) (c := 20) hT hH hF hc hb s5 hRC rfl ⟨fun w1 => ?_, fun w1 => ?_⟩ (fun w1 R2 _ => cz_take (K := fun a => tpZ vs cb (ν (q + 1)).toBitVec.toNat (sp5 f) a.2 g ((f :: r).map sp5)) hT hH hF hc hb hS hcl hfl hRC R2 (fun u0 F1 c0 t0 hF1 hS1 R3 _ => ?_)))
        · rcases e15 with ⟨w2, -⟩ | ⟨-, w2, w3⟩
          · exact absurd w2 w1
          rw [Z_of32] at w2 w3
          rw [e13] at w3
          rw [R1, if_pos (by omega)]
        · rcases e15 with ⟨-, w2⟩ | ⟨w2, -⟩
          · rw [Z_of32, e13] at w2
            have := z_rg r13
            rw [R1, if_neg (by omega)]
          · rw [w1] at w2
            exact absurd w2 (by decide)
        rcases e15 with ⟨w2, -⟩ | ⟨-, w2, w3⟩
        · exact absurd w2 w1
        rw [Z_of32] at w2 w3
        rw [e13] at w3
        obtain ⟨u, hu⟩ : ∃ u : Nat, (ν (q + 1)).toInt = u := ⟨(ν (q + 1)).toInt.toNat, by omega⟩
        have k9 : (F1 ck 9 + 1).toInt = (q + 1 : Nat) := z_inc hS1.1.2.2.2.2.1 (by omega)
        have ck9 : (F1 ck 9 + 1).toNatClampNeg = q + 1 := by rw [z_cl, k9]; omega
        refine ⟨nt, r2, knt, by rw [z_in, xW_i, k9, xW_n, nnt]; omega, ?_⟩
        rw [xW_i, hS1.2.2.2.1, ck9]
        rw [show (ν (q + 1)).toBitVec.toNat = u by omega] at R3
        exact cz_checkCall (cur := c0) hT hH hF1 hc hb hS1 (by have := t0.len; omega) hg hfl hL hu (by omega) (tyP u (by omega)).1 (tyP u (by omega)).2 hRC R3 (fun F2 c1 cur' g' pa P d1 d2 t1 t2 hF2 hS2 R4 _ _ => hQ F2 cur' _ ν g' ⟨fun e => by omega, fun e => by omega, fun e _ => by omega, fun e => by omega, fun e => by omega, fun e => by omega, fun e => by omega, fun e => by omega, fun e => by omega, fun e => by omega, fun _ => ⟨u, pa, P, c0, c1, u0.toInt, hy y0, hu, by omega, d1, d2, t0, t1, t2, rfl, rfl⟩, fun e => by omega, fun e => by omega, fun e _ => by omega, fun e _ => by omega, fun e _ => by omega, fun e _ => by omega, fun e => by omega⟩ hF2 hS2 R4)
      refine ⟨kck, md, r0, kmd, rw 3, hM.row (by omega), hM.krow (by omega), md_lines (c := 3) hM (by omega) rfl (by omega) (fun r82 e82 _ => ⟨fun e2 => L296 0 (fun h9 => absurd rfl h9) (fun _ => ?_), fun e2 => L296 1 (fun _ => ?_) (fun h9 => absurd h9 (by decide))⟩)⟩
      all_goals
        rw [z_le, e82] at e2
        simp only [Int32.reduceToInt] at e2
        omega
    · rw [z_eq] at e
      simp only [Int32.reduceToInt] at e
      exact absurd (by omega) bad
    · rw [z_eq] at e
      simp only [Int32.reduceToInt] at e
      exact absurd (by omega) bad
    · rw [z_eq] at e
      simp only [Int32.reduceToInt] at e
      exact absurd (by omega) bad
    · rw [z_eq] at e
      simp only [Int32.reduceToInt] at e
      exact absurd (by omega) bad
    · rw [z_eq] at e
      simp only [Int32.reduceToInt] at e
      exact absurd (by omega) bad
    · rw [z_eq] at e
      simp only [Int32.reduceToInt] at e
      exact absurd (by omega) bad
    · rw [z_eq] at e
      simp only [Int32.reduceToInt] at e
      exact absurd (by omega) bad
    · rw [z_eq] at e
      simp only [Int32.reduceToInt] at e
      exact absurd (by omega) bad
    · rw [z_eq] at e
      simp only [Int32.reduceToInt] at e
      exact ⟨kck, cz_take (K := fun a => .ok (a.2, (f :: r).map sp5, g)) hT hH hF hc hb hS hcl hfl hRC (Rc (by omega) (clZ_26 (by omega))) (fun u F1 c1 t1 hF1 hS1 R1 _ _ => hQ F1 c1 _ ν g ⟨fun e => by omega, fun e => by omega, fun e _ => by omega, fun e => by omega, fun e => by omega, fun e => by omega, fun e => by omega, fun e => by omega, fun e => by omega, fun e => by omega, fun e => by omega, fun _ => ⟨⟨u.toInt, t1⟩, rfl, rfl, rfl⟩, fun e => by omega, fun e _ => by omega, fun e _ => by omega, fun e _ => by omega, fun e _ => by omega, fun e => by omega⟩ hF1 hS1 R1)⟩
    · rw [z_eq] at e
      simp only [Int32.reduceToInt] at e
      exact ⟨kck, cz_checkSelect hT hH hF hc hb hS hcl hg hfl hty hRC (Rc (by omega) (clZ_27 (by omega))) (fun F1 c1 c2 c3 cur' r3 r5 r7 g' t1 t2 t3 t4 hF1 hS1 R1 _ _ => hQ F1 cur' _ ν g' ⟨fun e => by omega, fun e => by omega, fun e _ => by omega, fun e => by omega, fun e => by omega, fun e => by omega, fun e => by omega, fun e => by omega, fun e => by omega, fun e => by omega, fun e => by omega, fun e => by omega, fun _ => ⟨c1, c2, c3, r3, r5, r7, t1, t2, t3, t4, rfl, rfl⟩, fun e _ => by omega, fun e _ => by omega, fun e _ => by omega, fun e _ => by omega, fun e => by omega⟩ hF1 hS1 R1)⟩
    · rw [z_eq] at a0 a1 a2 a3' a4 a5 a6 a7 a8 a9 a10 a11 a12 a13 a14 a15 a16 a17 a18 a19 a20 a21 a22 a23 a24 a25 a26 a27
      simp only [Int32.reduceToInt] at a0 a1 a2 a3' a4 a5 a6 a7 a8 a9 a10 a11 a12 a13 a14 a15 a16 a17 a18 a19 a20 a21 a22 a23 a24 a25 a26 a27
      exact absurd (by omega) bad
  · rw [z_lt] at h4 h3
    simp only [Int32.reduceToInt] at h4 h3
    have h36 : x.toInt ≤ 36 := by
      by_cases h9 : x.toInt ≤ 36
      · exact h9
      · exfalso
        apply hx0
        have : x.toInt = 37 ∨ x.toInt = 38 ∨ x.toInt = 39 := by omega
        rcases this with h8 | h8 | h8 <;> (rw [h8]; decide)
    have sh4 : 4 ≤ wk_sh x.toInt := by
      have : x.toInt = 32 ∨ x.toInt = 33 ∨ x.toInt = 34 ∨ x.toInt = 35 ∨ x.toInt = 36 := by omega
      rcases this with h8 | h8 | h8 | h8 | h8 <;> (rw [h8]; decide)
    refine cz_checkNamed hT hH hF hc hb hS hcl hg hfl hL ht hlc hlo hv (by omega) h36 (hq1 (.inr sh4)) hxo hpa0 hP0 hRC (hR.trans (ckZ_p (by omega))) (fun F1 cur' g' i b1 b2 b3 hF1 hS1 R1 _ => hQ F1 cur' (f :: r) ν g' ?_ hF1 hS1 R1)
    refine ⟨fun e => by omega, fun e => by omega, fun e _ => by omega, fun e => by omega, fun e => by omega, fun e => by omega, fun e => by omega, fun e => by omega, fun e => by omega, fun e => by omega, fun e => by omega, fun e => by omega, fun e => by omega, fun e1 e2 => ?_, fun e1 e2 => ?_, fun e _ => by omega, fun e _ => by omega, fun e => by omega⟩
    · obtain ⟨pa, P, d1, d2, d3, d4, d5, d6⟩ := b2 (by omega)
      exact ⟨i, pa, P, b1, d1, d2, d3, d4, d5, d6, rfl, rfl⟩
    · obtain ⟨d1, d2, d3⟩ := b3 (by omega)
      exact ⟨i, b1, d1, d2, d3, rfl, rfl⟩
  · rw [z_lt] at h3 h2
    simp only [Int32.reduceToInt] at h3 h2
    have sh4 : 4 ≤ wk_sh x.toInt := by
      unfold wk_sh
      rw [if_neg (by omega), if_neg (by omega), if_pos (by omega)]
      split <;> omega
    exact cz_checkMemory hT hH hF hc hb hS hcl hg hfl (by omega) (by omega) (fun _ => hq1 (.inr sh4)) hxo hRC (hR.trans (ckZ_m (by omega))) (fun F1 cur' g' b1 b2 b3 b4 b5 hF1 hS1 R1 _ => hQ F1 cur' _ ν g' ⟨fun e => by omega, fun e => by omega, fun e _ => by omega, fun e => by omega, fun e => by omega, fun e => by omega, fun e => by omega, fun e => by omega, fun e => by omega, fun e => by omega, fun e => by omega, fun e => by omega, fun e => by omega, fun e _ => by omega, fun e _ => by omega, fun _ _ => ⟨b1, b2, b3, b4, b5, rfl, rfl⟩, fun e _ => by omega, fun e => by omega⟩ hF1 hS1 R1)
  · rw [z_lt] at h2 h1
    simp only [Int32.reduceToInt] at h2 h1
    have ev : (127 - (x - 65)).toInt = 192 - x.toInt := by
      have e1 : (x - 65).toInt = x.toInt - 65 := by rw [z_sub]; simp only [Int32.reduceToInt]; omega
      rw [z_sub, e1]
      simp only [Int32.reduceToInt]
      omega
    refine cs_put hH hF hS hcl (by omega) (by rw [ev]; omega) (fun F1 cur' g' w hF1 hS1 _ => ?_)
    rw [ev] at w
    exact hQ F1 cur' _ ν g' ⟨fun e => by omega, fun e => by omega, fun e _ => by omega, fun e => by omega, fun e => by omega, fun e => by omega, fun e => by omega, fun e => by omega, fun e => by omega, fun e => by omega, fun e => by omega, fun e => by omega, fun e => by omega, fun e _ => by omega, fun e _ => by omega, fun e _ => by omega, fun _ _ => ⟨w, rfl, rfl⟩, fun e => by omega⟩ hF1 hS1 (hR.trans ((ckZ_k (by omega)).trans (by rw [show (192 : Int) - (o : Int) = 192 - x.toInt by omega]; exact congrArg _ (ptC_k w))))
  · rw [z_lt] at h1
    simp only [Int32.reduceToInt] at h1
    exact cz_checkNumeric hT hH hF hc hb hS hcl hg hfl hx2 (by omega) hxo hRC (hR.trans (ckZ_n (by omega))) (fun F1 i c1 cur' g' b1 b2 b3 t1 t2 hF1 hS1 R1 _ => hQ F1 cur' _ ν g' ⟨fun e => by omega, fun e => by omega, fun e _ => by omega, fun e => by omega, fun e => by omega, fun e => by omega, fun e => by omega, fun e => by omega, fun e => by omega, fun e => by omega, fun e => by omega, fun e => by omega, fun e => by omega, fun e _ => by omega, fun e _ => by omega, fun e _ => by omega, fun e _ => by omega, fun _ => ⟨i, c1, b1, b2, b3, t1, t2, rfl, rfl⟩⟩ hF1 hS1 R1)
end CCB
