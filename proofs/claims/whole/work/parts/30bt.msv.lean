-- the reference: run
/-- a run is under way and has begun -/
def rJ (v : Nat → Int32) : Prop := v 62 ≠ 0 ∧ v 63 ≠ 0 ∧ ∃ f : Nat, (v 64).toInt = f ∧ fnO v f
/-- what comes of a run: calls and values / a trap's four numbers -/
abbrev rZ : Type := (List cX × Nat × (Nat → Int64)) ⊕ (Int32 × Int32 × Int32 × Int32)
/-- a function's module's number -/
def mzF (A : Nat → Nat) (F : Nat → Nat → Int32) (f : Nat) : Nat := (F (A 31) (F (A 44) f).toInt.toNat).toInt.toNat
/-- a step's outcome, its trap as it is noted -/
def tzR (A : Nat → Nat) (F : Nat → Nat → Int32) (x : cX) (z : cZ) (z' : rZ) : Prop := match z with
  | .inl y => z' = .inl y
  | .inr κ => ∃ p : Int32, p.toInt = x.2.2.2.1 ∧ z' = .inr (κ, F (A 44) x.1, F (A 10) (4 * mzF A F x.1) + F (A 45) x.1, p - F (A 6) (mzF A F x.1))
/-- what is known stays known over a step -/
def jRS (A : Nat → Nat) (F : Nat → Nat → Int32) (DM : Nat → zM) (most : Nat → Int64) (J : Nat → rZ → rWd → Prop) : Prop :=
  ∀ (F' : Nat → Nat → Int32), (∀ k, k ∈ kB → F' (A k) = F (A k)) → ∀ (lf l2 n op : Nat) (x : cX) (r : List cX) (ω : Nat → Int64) (w w' : rWd) (z : cZ) (z' : rZ) (T p0 E : Nat) (lo ν0 ν1 : Nat → Int32) (G : ctG) (V : Nat → Prop) (rm : Int), bWt (fMo (fun k => F' (A k)) DM x.1) (fTy (fun k => F' (A k)) DM x.1) T p0 E lo ν0 ν1 G V rm → G 0 x.2.2.2.1 x.2.2.2.2.1 x.2.2.2.2.2 → x.2.2.1 = tPn (fMo (fun k => F' (A k)) DM x.1) (fTy (fun k => F' (A k)) DM x.1) + T → (∀ y ∈ x.2.2.2.2.2, V y.1) → (qc (fMo (fun k => F' (A k)) DM x.1) x.2.2.2.1).toInt % 256 = op → ((nSt op ∧ l2 = lf) ∨ (¬ nSt op ∧ l2 = lf + 1)) → J l2 (.inl (x :: r, n, ω)) w → stR A F' DM (fMo (fun k => F' (A k)) DM x.1) (fTy (fun k => F' (A k)) DM x.1) x.1 x.2.1 x.2.2.1 (ct_B ν1 p0 E) ν0 op x.2.2.2.1 x.2.2.2.2.1 x.2.2.2.2.2 r ω most w w' z → tzR A F' x z z' → J lf z' w'
/-- how a run ends -/
def rEd (own : Nat → Nat) (mm : Nat) (A : Nat → Nat) (h : xb_H) (F : Nat → Nat → Int32) (v : Nat → Int32) (DM : Nat → zM) (len rl K : Nat) (J : Nat → rZ → rWd → Prop) (r : Int32) (h' : xb_H) (F' : Nat → Nat → Int32) (v' : Nat → Int32) : Prop :=
  (f0 own h F h' F' ∧ rA own mm A h' F' v' DM len rl K) ∧ ((∀ k, k ∈ kB → F' (A k) = F (A k)) ∧ (∀ k, k ∈ kL → xb_l h' (A k) = xb_l h (A k)) ∧ (∀ j, j ≠ 85 → xb_l h' mm j = xb_l h mm j) ∧ vmk A h' F' ∧ ∀ j, j ∉ rnV → j ≠ 53 → j ≠ 88 → j ≠ 95 → j ≠ 62 → v' j = v j) ∧
  ((r = 2 ∧ (v' 62 = v 62 ∧ v' 82 = 0) ∧ F' (A 86) = F (A 86) ∧ xb_l h' mm = xb_l h mm ∧ ∃ (x : cX) (cs : List cX) (n : Nat) (ω : Nat → Int64), rSt A F' v' DM (x :: cs) n ∧ xb_l h' (A 74) = ω ∧ J 0 (.inl (x :: cs, n, ω)) (rwd A h' F' v') ∧ ¬ nSt ((qc (fMo (fun k => F' (A k)) DM x.1) x.2.2.2.1).toInt % 256).toNat) ∨
   (r = 0 ∧ v' 62 = 0 ∧ (v' 68).toInt = 0 ∧ F' (A 86) = F (A 86) ∧ ∃ (lf n : Nat) (ω : Nat → Int64), J lf (.inl ([], n, ω)) (rwd A h' F' v') ∧ xb_l h' mm 85 = (if 0 < n then ω 0 else 0)) ∨
   (r = 1 ∧ v' 62 = 0 ∧ v' 68 = 0 ∧ xb_l h' mm = xb_l h mm ∧ ∃ (lf : Nat) (z : Int32 × Int32 × Int32 × Int32), J lf (.inr z) (rwd A h' F' v') ∧ F' (A 86) 0 = z.1 ∧ F' (A 86) 1 = z.2.1 ∧ F' (A 86) 2 = z.2.2.1 ∧ F' (A 86) 3 = z.2.2.2))
section MSV
variable {own : Nat → Nat} {mm m i ip k f t b nl o top q a o1 op base : Nat} {A : Nat → Nat} {h h' h2 : xb_H} {F F' F2 : Nat → Nat → Int32} {v v' v2 : Nat → Int32} {D : zM} {DM : Nat → zM} {len rl K : Nat} {Q : xb_H → Prop} {Qr : Int32 → xb_H → Prop} {Ql : Int64 → xb_H → Prop} {φ φ' : Nat → Nat → Int32} {ν ν' : Nat → Int32} {c c' ex pre : List Int} {gs g1 : List gF} {T p0 E : Nat} {lo ν0 ν1 cb : Nat → Int32} {G : ctG} {V : Nat → Prop} {rm y res : Int} {r cs : List cX} {nst : Prop} {x : Nat × Option Nat}
theorem gOK.vis {φ : Nat → Nat → Int32} {cb : Nat → Int32} {V : Nat → Prop} {h0 o0 : Nat} : ∀ {gs : List gF}, gOK φ cb V h0 o0 gs → ∀ y ∈ gs, V y.1
  | [], _, _, hy => by cases hy
  | x :: r, h9, y, hy => by
    rcases List.mem_cons.mp hy with e | e
    · rw [e]
      exact h9.1.1
    · exact gOK.vis h9.2 y e
theorem rJ.p (hJ : rJ v) (hp : ∀ j, j ∉ rnV → j ≠ 53 → j ≠ 88 → j ≠ 95 → v' j = v j) : rJ v' := by
  obtain ⟨h1, h2, f, h3, h4⟩ := hJ
  refine ⟨by rw [hp 62 (by decide) (by decide) (by decide) (by decide)]; exact h1, by rw [hp 63 (by decide) (by decide) (by decide) (by decide)]; exact h2, f, by rw [hp 64 (by decide) (by decide) (by decide) (by decide)]; exact h3, ?_⟩
  unfold fnO vN
  rw [hp 43 (by decide) (by decide) (by decide) (by decide)]
  exact h4
theorem ptl_to {w : Nat → Int32} {p pa : Nat} : ∀ {P : Nat}, (∀ k, k < P → (w (p + k)).toInt = (cb (pa + k)).toInt) → tyS w p (ptl cb pa P)
  | 0, _ => trivial
  | P + 1, h => by
    rw [ptl_s]
    exact ⟨by rw [ptl_len]; exact h P (by omega), ptl_to (fun k hk => h k (by omega))⟩
theorem fPk_to {w : Nat → Int32} {p : Nat} (h : ∀ k, k < (fPl φ DM f).length → (w (p + k)).toInt = fPk φ DM f k) : tyS w p (fPl φ DM f) := by
  unfold fPl at h ⊢
  unfold fPk at h
  split
  · next e =>
    rw [if_pos e] at h
    simp only [if_pos e] at h
    refine ptl_to (fun k hk => h k (by rw [ptl_len]; exact hk))
  · next e =>
    rw [if_neg e] at h
    simp only [if_neg e] at h
    exact ⟨h 0 (by simp), trivial⟩
/-- a run ends, well -/
theorem n_endZ (hA : rU own mm A h F v DM len rl K) (h82 : v 82 = 0) (hQ : Qr 0 (mH (xb_L h mm 85 (if 0 < (v 76).toInt then xb_l h (A 74) 0 else 0)) F mm (va_up v 62 0))) : w_M_run_L276 Qr mm (mH h F mm v) := by
  have hB := hA.B
  obtain ⟨g74, k74, n74, m74⟩ := hB.kx (k := 74) (kd := 103) (n := 18384) (by decide) (by decide)
  have vo : ∀ j, j ≠ 62 → va_up v 62 0 j = v j := fun j hj => by rw [xh_up, if_neg hj]
  have L313 : ∀ y0 : Int64, y0 = (if 0 < (v 76).toInt then xb_l h (A 74) 0 else 0) → w_M_run_L313 Qr y0 mm (mH h F mm (va_up v 62 0)) := by
    intro y0 hy0
    unfold w_M_run_L313
    refine ⟨hB.2.1, fun h2 e2 => ?_⟩
    have e2' : h2 = mH (xb_L h mm 85 y0) F mm (va_up v 62 0) := e2
    subst e2'
    rw [hy0]
    exact hQ
  unfold w_M_run_L276
  refine ⟨hB.2.1, fun h2 e2 => ?_⟩
  rw [mH_I] at e2
  subst e2
  rw [mH_i, vo 82 (by decide), vo 76 (by decide), h82]
  refine ⟨fun _ => ⟨fun hle => L313 _ ?_, fun hgt => ⟨A 74, g74, k74, z_vin (k := 0) rfl n74 (by decide), L313 _ ?_⟩⟩, fun h9 => absurd (by decide) h9⟩
  · rw [z_le] at hle
    simp only [Int32.reduceToInt] at hle
    rw [if_neg (by omega)]
  · rw [z_le] at hgt
    simp only [Int32.reduceToInt] at hgt
    rw [if_pos (by omega)]
    rfl
/-- a run ends with a trap -/
theorem n_endT (hA : rU own mm A h F v DM len rl K) (h82 : 0 < (v 82).toInt) (hQ : Qr 1 (mH h F mm (va_up (va_up v 62 0) 68 0))) : w_M_run_L276 Qr mm (mH h F mm v) := by
  have hB := hA.B
  have vo : ∀ j, j ≠ 62 → va_up v 62 0 j = v j := fun j hj => by rw [xh_up, if_neg hj]
  unfold w_M_run_L276
  refine ⟨hB.2.1, fun h2 e2 => ?_⟩
  rw [mH_I] at e2
  subst e2
  rw [mH_i, vo 82 (by decide)]
  refine ⟨fun hle => ?_, fun _ h8 e8 => ?_⟩
  · rw [z_le] at hle
    simp only [Int32.reduceToInt] at hle
    omega
  · rw [mH_I] at e8
    subst e8
    exact hQ
theorem n_qf (hf : f0 own h F h' F') (hQ : rPq own mm A h F DM len rl K Q) : rPq own mm A h' F' DM len rl K Q := fun h2 F2 v2 g1 g2 => hQ h2 F2 v2 (hf.tr g1) g2
theorem z_stp {lf m n m2 : Nat} (h1 : (lf + 1) * 2400001 + m < n + 1) (h2 : m2 ≤ 2400000) : lf * 2400001 + m2 < n := by
  rw [Nat.add_mul, Nat.one_mul] at h1
  generalize lf * 2400001 = z at h1 ⊢
  omega
theorem z_nst {lf m n m2 : Nat} (h1 : lf * 2400001 + m < n + 1) (h2 : m2 < m) : lf * 2400001 + m2 < n := by omega
/-- the loop of a run -/
theorem n_loop {J : Nat → rZ → rWd → Prop} (hJs : jRS A F DM (xb_l h (A 55)) J) (hJp : ∀ lf z w, J lf (.inr z) w → 0 < z.1.toInt) (hQ : ∀ (r : Int32) (h' : xb_H) (F' : Nat → Nat → Int32) (v' : Nat → Int32), rEd own mm A h F v DM len rl K J r h' F' v' → Qr r (mH h' F' mm v')) : ∀ (n : Nat) (h1 : xb_H) (F1 : Nat → Nat → Int32) (v1 : Nat → Int32) (lf : Nat), (v1 95).toInt = lf → rU own mm A h1 F1 v1 DM len rl K → f0 own h F h1 F1 → xB mm A h F h1 F1 → (∀ j, j ∉ rnV → j ≠ 53 → j ≠ 88 → j ≠ 95 → v1 j = v j) → vmk A h1 F1 → rJ v1 → ((v1 82 = 0 ∧ F1 (A 86) = F (A 86) ∧ ∃ (cs : List cX) (m : Nat), rSt A F1 v1 DM cs m ∧ J lf (.inl (cs, m, xb_l h1 (A 74))) (rwd A h1 F1 v1) ∧ (cs ≠ [] → lf * 2400001 + mu cs < n)) ∨ (v1 82 ≠ 0 ∧ ∃ z, J lf (.inr z) (rwd A h1 F1 v1) ∧ v1 82 = z.1 ∧ F1 (A 86) 0 = z.1 ∧ F1 (A 86) 1 = z.2.1 ∧ F1 (A 86) 2 = z.2.2.1 ∧ F1 (A 86) 3 = z.2.2.2)) → w_M_run_L125 Qr (n + 1) mm (mH h1 F1 mm v1) := by
  intro n
  -- the ends
  have finT : ∀ (h1 : xb_H) (F1 : Nat → Nat → Int32) (v1 : Nat → Int32) (lf : Nat) z, rU own mm A h1 F1 v1 DM len rl K → f0 own h F h1 F1 → xB mm A h F h1 F1 → (∀ j, j ∉ rnV → j ≠ 53 → j ≠ 88 → j ≠ 95 → v1 j = v j) → vmk A h1 F1 → J lf (.inr z) (rwd A h1 F1 v1) → v1 82 = z.1 → F1 (A 86) 0 = z.1 ∧ F1 (A 86) 1 = z.2.1 ∧ F1 (A 86) 2 = z.2.2.1 ∧ F1 (A 86) 3 = z.2.2.2 → w_M_run_L276 Qr mm (mH h1 F1 mm v1) := by
    intro h1 F1 v1 lf z hU hf hx hn1 hv hj e82 e86
    refine n_endT hU (by rw [e82]; exact hJp _ _ _ hj) (hQ _ _ _ _ ?_)
    have vo : ∀ j, j ≠ 62 → j ≠ 68 → va_up (va_up v1 62 0) 68 0 j = v1 j := fun j a1 a2 => by rw [xh_up, if_neg a2, xh_up, if_neg a1]
    have hU2 := n_vv hU (v' := va_up (va_up v1 62 0) 68 0) (fun k hk => vo k ((by decide : ∀ k, k ∈ vW1 → k ≠ 62) k hk) ((by decide : ∀ k, k ∈ vW1 → k ≠ 68) k hk))
    have eW : rwd A h1 F1 (va_up (va_up v1 62 0) 68 0) = rwd A h1 F1 v1 := by
      unfold rwd
      rw [vo 53 (by decide) (by decide), vo 88 (by decide) (by decide)]
    refine ⟨⟨hf, hU2.A5 (W5.no (by rw [xh_up, if_neg (by decide), xh_up, if_pos rfl]))⟩, ⟨hx.1, hx.2.1, fun j _ => by rw [hx.2.2.1], hv, fun j a1 a2 a3 a4 a5 => ?_⟩, .inr (.inr ⟨rfl, by rw [xh_up, if_neg (by decide), xh_up, if_pos rfl], by rw [xh_up, if_pos rfl], hx.2.2.1, lf, z, by rw [eW]; exact hj, e86⟩)⟩
    rw [vo j a5 (fun e => a1 (by rw [e]; decide))]
    exact hn1 j a1 a2 a3 a4
  have finZ : ∀ (h1 : xb_H) (F1 : Nat → Nat → Int32) (v1 : Nat → Int32) (lf m : Nat), rU own mm A h1 F1 v1 DM len rl K → f0 own h F h1 F1 → xB mm A h F h1 F1 → (∀ j, j ∉ rnV → j ≠ 53 → j ≠ 88 → j ≠ 95 → v1 j = v j) → vmk A h1 F1 → v1 82 = 0 → F1 (A 86) = F (A 86) → rSt A F1 v1 DM [] m → J lf (.inl ([], m, xb_l h1 (A 74))) (rwd A h1 F1 v1) → w_M_run_L276 Qr mm (mH h1 F1 mm v1) := by
    intro h1 F1 v1 lf m hU hf hx hn1 hv e82 e86 hst hj
    have hB := hU.B
    have e76 := hst.2.1 rfl
    refine n_endZ hU e82 (hQ _ _ _ _ ?_)
    have vo : ∀ j, j ≠ 62 → va_up v1 62 0 j = v1 j := fun j a1 => by rw [xh_up, if_neg a1]
    have o60 : 60 ≤ own mm := by rw [hB.1]; omega
    have hU2 := (n_vv hU (v' := va_up v1 62 0) (fun k hk => vo k ((by decide : ∀ k, k ∈ vW1 → k ≠ 62) k hk))).Lw (j := 85) (z := if 0 < (v1 76).toInt then xb_l h1 (A 74) 0 else 0) o60
    have xo : ∀ d, d ≠ mm → xb_l (xb_L h1 mm 85 (if 0 < (v1 76).toInt then xb_l h1 (A 74) 0 else 0)) d = xb_l h1 d := fun d hd => by
      rw [show xb_l (xb_L h1 mm 85 (if 0 < (v1 76).toInt then xb_l h1 (A 74) 0 else 0)) = va_up (xb_l h1) mm (va_up (xb_l h1 mm) 85 (if 0 < (v1 76).toInt then xb_l h1 (A 74) 0 else 0)) from rfl, xh_up, if_neg hd]
    have xA : ∀ k, (∃ e ∈ aL, e.1 = k) → xb_l (xb_L h1 mm 85 (if 0 < (v1 76).toInt then xb_l h1 (A 74) 0 else 0)) (A k) = xb_l h1 (A k) := fun k hk => xo _ (hB.nm hk)
    have eW : rwd A (xb_L h1 mm 85 (if 0 < (v1 76).toInt then xb_l h1 (A 74) 0 else 0)) F1 (va_up v1 62 0) = rwd A h1 F1 v1 := by
      unfold rwd
      rw [vo 53 (by decide), vo 88 (by decide), xA 61 (by decide), xA 87 (by decide)]
    have qL : ∀ k, k ∈ kL → ∃ e ∈ aL, e.1 = k := by decide
    refine ⟨⟨hf.tr (f0.L o60), hU2.A5 (W5.no (by rw [xh_up, if_pos rfl]))⟩, ⟨hx.1, fun k hk => by rw [xA k (qL k hk)]; exact hx.2.1 k hk, fun j h9 => by rw [xl_L, xh_up, if_neg h9, hx.2.2.1], fun i => by rw [xA 74 (by decide)]; exact hv i, fun j a1 a2 a3 a4 a5 => ?_⟩, .inr (.inl ⟨rfl, by rw [xh_up, if_pos rfl], by rw [vo 68 (by decide)]; exact hst.1, e86, lf, m, xb_l h1 (A 74), by rw [eW]; exact hj, ?_⟩)⟩
    · rw [vo j a5]
      exact hn1 j a1 a2 a3 a4
    · rw [xl_L, xh_up, if_pos rfl, e76]
      by_cases h9 : 0 < m
      · rw [if_pos (by omega), if_pos h9]
      · rw [if_neg (by omega), if_neg h9]
  induction n with
  | zero =>
    intro h1 F1 v1 lf h95 hU hf hx hn1 hv hJ hc
    have hB := hU.B
    unfold w_M_run_L125
    rw [mH_i]
    rcases hc with ⟨e82, e86, cs, m, hst, hj, hm⟩ | ⟨e82, z, hj, ez, e86⟩
    · have hcs : cs = [] := Classical.byContradiction (fun h9 => absurd (hm h9) (Nat.not_lt_zero _))
      subst hcs
      refine ⟨hB.2.1, fun _ => finZ h1 F1 v1 lf m hU hf hx hn1 hv e82 e86 hst hj, fun hgt => ?_⟩
      exfalso
      apply hgt
      rw [z_le, hst.1]
      decide
    · have fin := finT h1 F1 v1 lf z hU hf hx hn1 hv hj ez e86
      exact ⟨hB.2.1, fun _ => fin, fun _ => ⟨fun _ => fin, fun e => absurd e e82⟩⟩
  | succ n ih =>
    intro h1 F1 v1 lf h95 hU hf hx hn1 hv hJ hc
    have hB := hU.B
    unfold w_M_run_L125
    rw [mH_i]
    rcases hc with ⟨e82, e86, cs, m, hst, hj, hm⟩ | ⟨e82, z, hj, ez, e86⟩
    rotate_left
    · have fin := finT h1 F1 v1 lf z hU hf hx hn1 hv hj ez e86
      exact ⟨hB.2.1, fun _ => fin, fun _ => ⟨fun _ => fin, fun e => absurd e e82⟩⟩
    cases cs with
    | nil =>
      refine ⟨hB.2.1, fun _ => finZ h1 F1 v1 lf m hU hf hx hn1 hv e82 e86 hst hj, fun hgt => ?_⟩
      exfalso
      apply hgt
      rw [z_le, hst.1]
      decide
    | cons x r =>
    obtain ⟨top, opens, c3, c4, c5⟩ := hst.2.2 (by simp)
    have c2 := hst.1
    have c6 := hm (by simp)
    have h68 : ¬ v1 68 ≤ 0 := fun h9 => by
      rw [z_le, c2] at h9
      simp only [List.length_cons, Int32.reduceToInt] at h9
      omega
    refine ⟨hB.2.1, fun h9 => absurd h9 h68, fun _ => ⟨fun h9 => absurd e82 h9, fun _ v4 e4 => ?_⟩⟩
    obtain ⟨o, T, p0, E, lo, ν0, ν1, G, V, rm, hX, hG, e70, hqb⟩ := n_uX hU c2 c3 c4 c5
    have hbw := hX.2.1.2.2.1
    have hlc := c5.lc
    simp only [List.length_cons] at c2 hlc
    have h4 : v4.toInt = r.length := by
      rw [e4, z_sub, c2]
      simp only [Int32.reduceToInt]
      omega
    have cl4 : v4.toNatClampNeg = r.length := by rw [z_cl, h4]; omega
    generalize hDD : fMo (fun k => F1 (A k)) DM x.1 = D at hX hqb
    generalize htt : fTy (fun k => F1 (A k)) DM x.1 = t at hX
    obtain ⟨iz, mz, bz, y1, y2, y3, y4, y5, y6, y7, y8, y9, hM, hM2, hM3⟩ := hX.dX
    obtain ⟨op, hop⟩ : ∃ op : Nat, (qc D x.2.2.2.1).toInt % 256 = op := ⟨((qc D x.2.2.2.1).toInt % 256).toNat, by omega⟩
    obtain ⟨-, -, -, -, ha1, ha2, -⟩ := hX.ai hG hop
    have e69 : (F1 (A 69) r.length).toInt = x.1 := hX.2.1.2.1.1
    obtain ⟨g69, k69, n69, m69⟩ := hB.kx (k := 69) (kd := 102) (n := 200) (by decide) (by decide)
    obtain ⟨g70, k70, n70, m70⟩ := hB.kx (k := 70) (kd := 102) (n := 200) (by decide) (by decide)
    obtain ⟨g3, k3, n3, m3⟩ := hB.kx (k := 3) (kd := 100) (n := 16384) (by decide) (by decide)
    obtain ⟨g44, k44, n44, m44⟩ := hB.kx (k := 44) (kd := 102) (n := 8192) (by decide) (by decide)
    obtain ⟨g31, k31, n31, m31⟩ := hB.kx (k := 31) (kd := 102) (n := 24) (by decide) (by decide)
    have hk200 : r.length < 200 := hX.2.1.1
    refine ⟨A 69, g69, k69, z_vin h4 n69 hk200, fun v8 e8 => ⟨A 70, g70, k70, z_vin h4 n70 hk200, fun v12 e12 => ?_⟩⟩
    rw [mH_o m69, cl4] at e8
    rw [mH_o m70, cl4] at e12
    have h8 : v8.toInt = x.1 := by rw [e8]; exact e69
    have h12 : v12.toInt = x.2.2.2.1 := by rw [e12]; exact e70
    have cl8 : v8.toNatClampNeg = x.1 := by rw [z_cl, h8]; omega
    have cl12 : v12.toNatClampNeg = x.2.2.2.1 := by rw [z_cl, h12]; omega
    refine ⟨A 3, g3, k3, z_vin h12 n3 (by omega), fun v16 e16 => ?_⟩
    rw [mH_o m3, cl12, hM.2.1.2.2.2.1 _ hqb (by omega)] at e16
    have h16 : v16.toInt = op := by
      rw [e16, z_255]
      exact hop
    have L201 : ∀ (v2 : Nat → Int32) (lf2 : Nat), (∀ j, j ≠ 95 → v2 j = v1 j) → (v2 95).toInt = lf2 → (∀ m, (nSt op → m < 12000 - x.2.2.2.1 + mu r) → m ≤ 2400000 → lf2 * 2400001 + m < n) → ((nSt op ∧ lf = lf2) ∨ (¬ nSt op ∧ lf = lf2 + 1)) → w_M_run_L201 (w_M_run_L125 Qr (n + 1)) Qr mm v4 v8 v12 v16 (mH h1 F1 mm v2) := by
      intro v2 lf2 hv2 h295 hP hlf2
      have hU2 : rU own mm A h1 F1 v2 DM len rl K := n_vv hU (fun k hk => hv2 k ((by decide : ∀ k, k ∈ vW1 → k ≠ 95) k hk))
      have hX2 := hX.cg hU2 (fun _ _ => rfl) (hv2 43 (by decide)) (hv2 68 (by decide)) (hv2 76 (by decide)) (hv2 81 (by decide))
      unfold w_M_run_L201
      refine ⟨hB.2.1, fun h2 e2 => ?_⟩
      rw [mH_I, vu_id hU2.W1.2.1.2.2] at e2
      subst e2
      have e44 : xb_i (mH h1 F1 mm v2) (A 44) v8.toNatClampNeg = F1 (A 44) x.1 := by rw [mH_o m44, cl8]
      have c44 : (F1 (A 44) x.1).toNatClampNeg = iz := by rw [z_cl, y1]; omega
      refine ⟨A 31, g31, A 44, g44, k44, z_vin h8 n44 y8, k31, by rw [e44]; exact z_vin y1 n31 y2, ?_⟩
      rw [e44, mH_o m31, c44]
      refine m_go_k hM hU2.z y4 (p := x.2.2.2.1 + 1) (z_inc h12 (by omega)) (by omega) (by omega) (fun v3 k3' _ => ⟨A 44, g44, k44, z_vin h8 n44 y8, ?_⟩)
      rw [mH_o m44, cl8]
      have hX3 := hX2.vg k3'.1 k3'.2.2.2
      have v382 : v3 82 = 0 := by rw [k3'.1 82 (by decide) (by decide) (by decide) (by decide) (by decide), hv2 82 (by decide)]; exact e82
      refine n_perform hX3 hG k3'.2.2.1 v382 h4 rfl h16 hop hv (fun h5 F5 v5 w5 z5 hp hst5 _ => ?_)
      obtain ⟨p1, pW, pM, pP⟩ := hp
      have p2 : rU own mm A h5 F5 v5 DM len rl K := by
        cases z5 with
        | inl z => exact pM.1
        | inr κ => exact pM.1
      have e94 : v5 94 = 0 := p2.W1.2.1.2.2
      rw [mH_i]
      have e13 : rwd A h1 F1 v3 = rwd A h1 F1 v1 := by
        unfold rwd
        rw [k3'.1 53 (by decide) (by decide) (by decide) (by decide) (by decide), hv2 53 (by decide), k3'.1 88 (by decide) (by decide) (by decide) (by decide) (by decide), hv2 88 (by decide)]
      rw [e13, hx.2.1 55 (by decide)] at hst5
      subst hDD htt
      have stp : ∀ z', tzR A F1 x z5 z' → J lf2 z' w5 := fun z' hz' => hJs F1 hx.1 lf2 lf m op x r (xb_l h1 (A 74)) (rwd A h1 F1 v1) w5 z5 z' T p0 E lo ν0 ν1 G V rm hbw.1 hG hbw.2.1 (gOK.vis hX.2.1.2.2.2.2.2.2.1) hop hlf2 hj hst5 hz'
      have L259 : w_M_run_L259 (w_M_run_L125 Qr (n + 1)) Qr mm v12 (v5 84) mm (mH h5 F5 mm v5) := by
        unfold w_M_run_L259
        refine ⟨p2.B.2.1, fun h6 e6 => ?_⟩
        rw [mH_I, vu_id rfl] at e6
        subst e6
        refine ⟨p2.B.2.1, fun h7 e7 => ?_⟩
        rw [mH_I, vu_id e94] at e7
        subst e7
        refine n_noteTrap p2 (fun h9 => ?_) (fun w hw _ => ?_)
        · cases z5 with
          | inl z => exact absurd pM.2.1 h9
          | inr κ => exact .inr ⟨_, _, pM.2.2.2⟩
        obtain ⟨q1, q2, q3, q4, q5⟩ := n_86 (w := w) p2
        have e95 : v5 95 = v2 95 := by rw [p1.2 95 (by decide) (by decide) (by decide), k3'.1 95 (by decide) (by decide) (by decide) (by decide) (by decide)]
        have vv5 : ∀ j, j ∉ rnV → j ≠ 53 → j ≠ 88 → j ≠ 95 → v5 j = v1 j := fun j a1 a2 a3 a4 => by
          rw [p1.2 j a1 a2 a3, k3'.1 j (fun e => a1 (by rw [e]; decide)) (fun e => a1 (by rw [e]; decide)) (fun e => a1 (by rw [e]; decide)) (fun e => a1 (by rw [e]; decide)) (fun e => a1 (by rw [e]; decide)), hv2 j a4]
        have x5 : xB mm A h1 F1 h5 F5 := p1.1.2.B
        have f86 : F5 (A 86) = F1 (A 86) := p1.1.2.1 86 (by decide)
        refine ih h5 _ v5 lf2 (by rw [e95]; exact h295) q1 ((hf.tr p1.1.1).tr q2) (hx.tr (x5.tr q4)) (fun j a1 a2 a3 a4 => by rw [vv5 j a1 a2 a3 a4]; exact hn1 j a1 a2 a3 a4) (q4.2.2.2 (x5.2.2.2 hv)) ((hJ.p (v' := v5)) vv5) ?_
        rw [xh_up, if_pos rfl, q5, pW]
        cases z5 with
        | inl z =>
          obtain ⟨cs', m', ω'⟩ := z
          obtain ⟨-, g82, gst, gω⟩ := pM
          refine .inl ⟨g82, by rw [hw.1 g82, f86, e86], cs', m', q3 _ _ gst, ?_, fun h9 => ?_⟩
          · rw [gω]
            exact stp _ rfl
          · refine hP _ (pP cs' m' ω' rfl h9) ?_
            have z1 := mu_le (cs := cs')
            obtain ⟨top', opens', -, -, d5⟩ := gst.2.2 h9
            have z2 := d5.lc
            omega
        | inr κ =>
          obtain ⟨-, g82, gκ, g1, g2, g3, g4⟩ := pM
          have n82 : v5 82 ≠ 0 := by rw [g82]; exact gκ
          obtain ⟨w0, -, w3⟩ := hw.2 n82
          refine .inr ⟨n82, (κ, F1 (A 44) x.1, F1 (A 10) (4 * mzF A F1 x.1) + F1 (A 45) x.1, v12 - F1 (A 6) (mzF A F1 x.1)), stp _ ⟨v12, h12, rfl⟩, g82, by rw [w0, g82], ?_⟩
          have k44 : F5 (A 44) = F1 (A 44) := x5.1 44 (by decide)
          have k31' : F5 (A 31) = F1 (A 31) := x5.1 31 (by decide)
          have emz : mzF A F1 x.1 = mz := by
            unfold mzF
            rw [y1, Int.toNat_natCast, y4, Int.toNat_natCast]
          obtain ⟨w1, w2, w3⟩ := w3 r.length x.1 iz mz g2 g3 (by rw [k44]; exact y1) (by rw [k31']; exact y4)
          rw [emz]
          rw [k44] at w1
          rw [x5.1 10 (by decide), x5.1 45 (by decide)] at w2
          rw [x5.1 6 (by decide)] at w3
          exact ⟨w1, w2, w3⟩
      exact ⟨fun _ => L259, fun h9 => absurd e94 h9⟩
    refine n_isStep h16 (fun r18 h18 _ => ⟨fun e0 => ?_, fun n0 => ⟨fun n95 h21 e21 => ?_, fun e95 => ?_⟩⟩)
    · rcases h18 with ⟨-, h18⟩ | ⟨h18, -⟩
      · exact L201 v1 lf (fun _ _ => rfl) h95 (fun m hm _ => z_nst c6 (hm h18)) (.inl ⟨h18, rfl⟩)
      · rw [h18] at e0
        exact absurd e0 (by decide)
    · rcases h18 with ⟨h18, -⟩ | ⟨-, h18⟩
      · exact absurd h18 n0
      · rw [mH_i] at n95
        rw [mH_i, mH_I] at e21
        subst e21
        cases lf with
        | zero => exact absurd (by rw [z_eq, h95]; rfl) n95
        | succ lf =>
          refine L201 _ lf (fun j hj => by rw [xh_up, if_neg hj]) ?_ (fun m _ hm => z_stp c6 hm) (.inr ⟨h18, rfl⟩)
          rw [xh_up, if_pos rfl, z_sub, h95]
          simp only [Int32.reduceToInt]
          have := z_rg (v1 95)
          omega
    · obtain ⟨j1, j2, f, j3, j4⟩ := hJ
      have e0 : lf = 0 := by
        rw [mH_i] at e95
        rw [e95] at h95
        have : (0 : Int32).toInt = 0 := rfl
        omega
      subst e0
      have h18' : ¬ nSt op := by
        rcases h18 with ⟨h18, -⟩ | ⟨-, h18⟩
        · exact absurd h18 n0
        · exact h18
      refine hQ 2 _ _ _ ⟨⟨hf, hU.A5 (fun _ => ⟨f, j3, j4, fun e => absurd e j2, fun _ => ⟨x :: r, top, opens, by rw [c2]; rfl, c3, c4, c5⟩⟩)⟩, ⟨hx.1, hx.2.1, fun j _ => by rw [hx.2.2.1], hv, fun j a1 a2 a3 a4 a5 => hn1 j a1 a2 a3 a4⟩, .inl ⟨rfl, ⟨hn1 62 (by decide) (by decide) (by decide) (by decide), e82⟩, e86, hx.2.2.1, x, r, m, xb_l h1 (A 74), hst, rfl, hj, ?_⟩⟩
      rw [hDD, hop, Int.toNat_natCast]
      exact h18'
end MSV
