-- a run: what is named
/-- components that a run may change -/
def goC : List Nat := [15, 22, 25, 26, 27, 28, 36, 37, 38]
theorem goC_lt : ∀ k ∈ goC, k < 41 := by decide
/-- result, trap and its flag stay -/
def nK (ad : Nat → Nat) (h h' : xb_H) : Prop := xb_l h' (ad 15) = xb_l h (ad 15) ∧ xb_i h' (ad 15) 7 = xb_i h (ad 15) 7 ∧ xb_i h' (ad 36) = xb_i h (ad 36)
theorem nK.tr {ad : Nat → Nat} {h h1 h2 : xb_H} (a : nK ad h h1) (b : nK ad h1 h2) : nK ad h h2 := ⟨b.1.trans a.1, b.2.1.trans a.2.1, b.2.2.trans a.2.2⟩
theorem nK.rf {ad : Nat → Nat} {h : xb_H} : nK ad h h := ⟨rfl, rfl, rfl⟩
theorem oR.nk {ad ad' : Nat → Nat} {h h2 h' : xb_H} {W : wD} {o : Oc} (hr : oR ad h2 ad' h' W o) (hk : nK ad h h2) : oR ad h ad' h' W o := hr.cg rfl rfl hk.1 hk.2.1 hk.2.2
theorem trD_up {κ A : Int} {D a : Nat} {gx : Nat → fG} {c : List Int} {s : List gF} : trD κ D (va_up gx (D - 1) (gT_ (gx (D - 1)) a c s)) A = trD κ D gx A := by
  unfold trD trZ
  rw [xh_up, if_pos rfl]
  rfl
/-- locals and variables: what becomes of values and variables -/
def unC (o : Nat) (x : fG) (v v' u u' : Nat → Int64) (i vv : Nat) (c' : List Int) : Prop :=
  (o = 32 ∧ v' = va_up v (gO x + (gC x).length) (v (gB x + i)) ∧ u' = u ∧ c'.length = (gC x).length + 1) ∨
  (o = 33 ∧ v' = va_up v (gB x + i) (v (gO x + (gC x).length - 1)) ∧ u' = u ∧ c'.length + 1 = (gC x).length) ∨
  (o = 34 ∧ v' = va_up v (gB x + i) (v (gO x + (gC x).length - 1)) ∧ u' = u ∧ c'.length = (gC x).length) ∨
  (o = 35 ∧ v' = va_up v (gO x + (gC x).length) (u vv) ∧ u' = u ∧ c'.length = (gC x).length + 1) ∨
  (o = 36 ∧ v' = v ∧ u' = va_up u vv (v (gO x + (gC x).length - 1)) ∧ c'.length + 1 = (gC x).length)
section US1
variable {own own' ad ad' : Nat → Nat} {h h' h1 : xb_H} {W : wD} {σ D : Nat} {gx : Nat → fG} {t P lcn p0 E g : Nat} {lo ν0 : Nat → Int32} {G : ctG}
/-- the machine's own things and the values of variables and memories change -/
theorem wI.mc {C : List Nat} (hB : cB own ad h) (hW : wI own ad h W σ) (s : stp C [] own ad own ad h h') (hC : ∀ k ∈ C, k = 15 ∨ k = 22 ∨ k = 26 ∨ k = 36 ∨ k = 37 ∨ k = 38) (hV : 22 ∈ C → ∀ v, v < wnv W → vr (wvt W v) (xb_l h' (ad 22) v)) : wI own ad h' W σ := by
  obtain ⟨⟨o1, o2, o3⟩, ⟨v1, v2, v3⟩, ⟨e1, e2, e3⟩, ⟨w1, w2⟩, ⟨un, u1, u2⟩, ⟨nn, ns, n1, n2, n3, n4, n5⟩, ⟨l1, l2, l3, l4⟩, ⟨⟨g1n, g1⟩, g2n, g2⟩, ⟨s1, s2, s3⟩⟩ := hW
  have he := s.2.2.2.1
  have hC41 : ∀ k ∈ C, k < 41 := fun k hk => by have := hC k hk; omega
  have cm : ∀ k, k < 41 → (k = 15 ∨ k = 22 ∨ k = 26 ∨ k = 36 ∨ k = 37 ∨ k = 38 → False) → xh_sm h h' (ad k) := fun k hk hn => (s.cm hB hC41 (fun x hx => by cases hx) hk (fun h9 => hn (hC k h9))).2
  have sm1 : ∀ a t, xb_k h a ≠ 0 → own a = t → t < 2 ∨ 42 < t → xh_sm h h' a := fun a t ha h1 h2 => s.n1 hB hC41 ha (by simp) h1 h2
  have nn' : ∀ k, k < 41 → xb_n h' (ad k) = xb_n h (ad k) := fun k hk => (he _ (hB.z k hk)).2
  have c14 := cm 14 (by omega) (by omega)
  have c18 := cm 18 (by omega) (by omega)
  refine ⟨⟨o1.fr (cm 19 (by omega) (by omega)) he, o2, fun f hf => by rw [(cm 20 (by omega) (by omega)).2.1]; exact o3 f hf⟩, ⟨v1.fr (cm 21 (by omega) (by omega)) he, v2, fun v hv => ?_⟩, ⟨e1.fr (cm 23 (by omega) (by omega)) he, e2, fun e h9 => by rw [(cm 24 (by omega) (by omega)).2.1]; exact e3 e h9⟩, ⟨w1.fr (cm 25 (by omega) (by omega)) he, w2⟩, ⟨un, u1.fr (cm 27 (by omega) (by omega)) he, u2⟩, ⟨nn, ns, n1.fr (cm 29 (by omega) (by omega)) he, by rw [c14.1]; exact n2, by rw [nn' 31 (by omega)]; exact n3, by rw [nn' 31 (by omega)]; exact n4, fun k hk => by rw [(cm 30 (by omega) (by omega)).2.1]; exact n5 k hk⟩, ⟨by rw [nn' 18 (by omega)]; exact l1, l2, by rw [c14.1]; exact l3, fun i hi => ?_⟩, ⟨⟨g1n, g1.fr (cm 32 (by omega) (by omega)) he⟩, g2n, g2.fr (cm 34 (by omega) (by omega)) he⟩, ⟨trivial, trivial, trivial⟩⟩
  · refine ⟨(v3 v hv).1, ?_⟩
    by_cases h9 : 22 ∈ C
    · exact hV h9 v hv
    · rw [(s.cm hB hC41 (fun x hx => by cases hx) (by omega) h9).2.2.1]
      exact (v3 v hv).2
  · rw [c18.2.2]
    exact ⟨(l4 i hi).1, (l4 i hi).2.fr (fun a h1 h2 => sm1 a (own a) h1 rfl (by omega)) he (fun _ _ => rfl) rfl⟩
/-- on to the place that is noted here -/
theorem rX.nt {a' : Nat} {gs : List gF} {K : xb_H → Prop} (hB : cB own ad h) (hW : wI own ad h W σ) (hr : rX ad h W D gx t P lcn p0 E lo ν0 g G) (hb : ct_B (dnu (wd W (gI (gx (D - 1))))) p0 E (gA (gx (D - 1))) a') (hG : G 0 a' (gC (gx (D - 1))) gs) (hK : ∀ h' : xb_H, stp [15] [] own ad own ad h h' → oR ad h ad h' W (.inl (D, va_up gx (D - 1) (gT_ (gx (D - 1)) a' (gC (gx (D - 1))) gs), xb_l h (ad 37))) → K h') : ∃ b : Nat, xb_r h (ad 15) 14 = some b ∧ xb_k h b = 102 ∧ vp_in (xb_i h (ad 15) 15) (xb_n h b) ∧ ∀ h2 : xb_H, h2 = xb_I h (ad 15) 15 (xb_i h b (Int32.toNatClampNeg (xb_i h (ad 15) 15))) → K h2 := by
  obtain ⟨-, ⟨t1, t2, t3, t4, t5, t6, t7⟩, -, ⟨a, a5, b1, -⟩, -, -⟩ := id hr
  obtain ⟨l5, ⟨⟨q1, q2, q3, q4, q5⟩, -⟩⟩ := hW.2.2.2.2.2.2.1.2.2.2 _ a5
  obtain ⟨-, ⟨m6, m7, m8, m9⟩, -, -, m10⟩ := id q5.1
  obtain ⟨-, ⟨e1, e2, e3, e4, e5, -⟩, -⟩ := id b1
  refine ⟨_, t7, m7, ?_, fun h2 e2' => ?_⟩
  · rw [z_in, t2, m8]
    have := hb.2.1
    omega
  · rw [z_cl, t2, Int.toNat_natCast, m9] at e2'
    rw [e2']
    exact hK _ (stp.Ic hB) (hr.at hB hG hb.2.2)
/-- a local variable's place -/
theorem rX.lc {i : Nat} {x : Int32} (hr : rX ad h W D gx t P lcn p0 E lo ν0 g G) (hS : mS ad h) (hx : x.toInt = i) (hi : i < P + lcn) : (xb_i h (ad 15) 16 + x).toInt = (gB (gx (D - 1)) + i : Nat) ∧ (xb_i h (ad 15) 16 + x).toNatClampNeg = gB (gx (D - 1)) + i ∧ vp_in (xb_i h (ad 15) 16 + x) (xb_n h (ad 37)) ∧ gB (gx (D - 1)) + i < gO (gx (D - 1)) := by
  obtain ⟨-, ⟨t1, t2, t3, -⟩, -, ⟨a, a5, b1, b2, b3, b7, b5, b6⟩, -, -⟩ := id hr
  have S4 := hS.2.2.2
  have e : (xb_i h (ad 15) 16 + x).toInt = (gB (gx (D - 1)) + i : Nat) := by
    rw [z_add, t3, hx]
    omega
  exact ⟨e, by rw [z_cl, e, Int.toNat_natCast], by rw [z_in, e]; omega, by omega⟩
/-- a value is put on top -/
theorem rX.pu {τ : Int} {v : Int64} {Qr : xb_H → Prop} (hB : cB own ad h) (hr : rX ad h W D gx t P lcn p0 E lo ν0 g G) (hS : mS ad h) (hl : (gC (gx (D - 1))).length < g) (hv : vr τ v) (hQ : ∀ h' : xb_H, stp [15, 37] [] own ad own ad h h' → rX ad h' W D (va_up gx (D - 1) (gR_ (gx (D - 1)) (gA (gx (D - 1))) (τ :: gC (gx (D - 1))))) t P lcn p0 E lo ν0 g G → xb_l h' (ad 37) = va_up (xb_l h (ad 37)) (gO (gx (D - 1)) + (gC (gx (D - 1))).length) v → nK ad h h' → Qr h') : w_Machine_putValue (ad 15) v h Qr := by
  obtain ⟨-, ⟨t1, t2, -⟩, -, ⟨a, a5, b1, b2, b3, b7, b5, b6⟩, -, -⟩ := id hr
  refine mc_put hB t1 (by omega) hS.2.2.2 (fun h' s w1 w2 w3 w4 w5 => hQ h' s ?_ w4 ⟨w5, w1 7 (by omega), (s.cm hB (by decide) (fun x hx => by cases hx) (k := 36) (by omega) (by decide)).2.1⟩)
  have c38 := (s.cm hB (by decide) (fun x hx => by cases hx) (k := 38) (by omega) (by decide)).2
  refine hr.go (fun j j1 _ => w1 j j1) (by rw [w2]) c38.1 (s.2.2.2.1 _ (hB.z 37 (by omega))).2 (fun j hj => by rw [w4, xh_up, if_neg (by omega)]) (by rw [w3]; rfl) (by rw [w1 15 (by omega)]; exact t2) (by simp only [List.length_cons]; omega) (fun i hi => by rw [w4, xh_up, if_neg (by omega)]; exact b5 i hi) ⟨?_, b6.cg (fun j j1 j2 => by rw [w4, xh_up, if_neg (by omega)])⟩
  rw [w4, xh_up, if_pos rfl]
  exact hv
/-- a local variable changes -/
theorem rX.ls {i : Nat} {c' : List Int} {v : Int64} (hr : rX ad h W D gx t P lcn p0 E lo ν0 g G) (hi : i < P + lcn) (hv : vr (ck_lt (dcb (wd W (gI (gx (D - 1))))) lo (dvs (wd W (gI (gx (D - 1)))) 0 (5 * t + 1)).toInt.toNat P i) v) (ei : ∀ j, j ≠ 10 → xb_i h' (ad 15) j = xb_i h (ad 15) j) (er : xb_r h' (ad 15) = xb_r h (ad 15)) (e38 : xb_i h' (ad 38) = xb_i h (ad 38)) (n37 : xb_n h' (ad 37) = xb_n h (ad 37)) (el : xb_l h' (ad 37) = va_up (xb_l h (ad 37)) (gB (gx (D - 1)) + i) v) (et : (xb_i h' (ad 15) 10).toInt = (gO (gx (D - 1)) + c'.length : Nat)) (hl : c'.length ≤ g) (hs : vst (xb_l h (ad 37)) (gO (gx (D - 1))) c') : rX ad h' W D (va_up gx (D - 1) (gR_ (gx (D - 1)) (gA (gx (D - 1))) c')) t P lcn p0 E lo ν0 g G := by
  obtain ⟨-, ⟨t1, t2, -⟩, -, ⟨a, a5, b1, b2, b3, b7, b5, b6⟩, -, -⟩ := id hr
  refine hr.go (fun j j1 _ => ei j j1) er e38 n37 (fun j hj => by rw [el, xh_up, if_neg (by omega)]) et (by rw [ei 15 (by omega)]; exact t2) hl (fun k hk => ?_) (hs.cg (fun j j1 j2 => by rw [el, xh_up, if_neg (by omega)]))
  rw [el, xh_up]
  split
  · have : k = i := by omega
    rw [this]
    exact hv
  · exact b5 k hk
theorem mc_useNamed {x1 : Int32} {o : Nat} {gs : List gF} {Qr : xb_H → Prop} (hB : cB own ad h) (hW : wI own ad h W σ) (hS : mS ad h) (hr : rX ad h W D gx t P lcn p0 E lo ν0 g G) (hx : x1.toInt = o) (h1 : 32 ≤ o) (h2 : o ≤ 36) (hl : ct_LC (dn (wd W (gI (gx (D - 1))))) (dvs (wd W (gI (gx (D - 1))))) (dcb (wd W (gI (gx (D - 1))))) lo t lcn ν0 G (ct_B (dnu (wd W (gI (gx (D - 1))))) p0 E) o (gA (gx (D - 1))) (gC (gx (D - 1))) gs)
    (hQ : ∀ (h' : xb_H) (c' : List Int) (a' : Nat), stp [15, 22, 37] [] own ad own ad h h' → wI own ad h' W σ → rX ad h' W D (va_up gx (D - 1) (gR_ (gx (D - 1)) (gA (gx (D - 1))) c')) t P lcn p0 E lo ν0 g G → ct_B (dnu (wd W (gI (gx (D - 1))))) p0 E (gA (gx (D - 1))) a' → G 0 a' c' gs → nK ad h h' → (∃ i : Nat, (ν0 (gA (gx (D - 1)) + 1)).toInt = i ∧ unC o (gx (D - 1)) (xb_l h (ad 37)) (xb_l h' (ad 37)) (xb_l h (ad 22)) (xb_l h' (ad 22)) i (vnI h W (gI (gx (D - 1))) i) c') → Qr h') : w_Machine_useNamed (ad 15) x1 h Qr := by
  obtain ⟨-, ⟨t1, t2, t3, t4, t5, t6, t7⟩, -, ⟨a, a5, b1, b2, b3, b7, b5, b6⟩, -, -⟩ := id hr
  obtain ⟨l5, hiO⟩ := hW.2.2.2.2.2.2.1.2.2.2 _ a5
  obtain ⟨⟨q1, q2, q3, q4, q5⟩, -⟩ := id hiO
  obtain ⟨-, ⟨m6, m7, m8, m9⟩, -, -, m10⟩ := id q5.1
  obtain ⟨⟨c1, c2, c3, c4, c5⟩, ⟨e1, e2, e3, e4, e5, -⟩, -, g0, -⟩ := id b1
  have k15 : xb_k h (ad 15) = 8 := hB.k 15 (by omega)
  have k37 : xb_k h (ad 37) = 103 := hB.k 37 (by omega)
  have r9 : xb_r h (ad 15) 9 = some (ad 37) := hB.r (15, 9, 37) (by decide)
  have n1537 : ad 15 ≠ ad 37 := hB.ne (by omega) (by omega) (by omega)
  have n3837 : ad 38 ≠ ad 37 := hB.ne (by omega) (by omega) (by omega)
  have n3815 : ad 38 ≠ ad 15 := hB.ne (by omega) (by omega) (by omega)
  have n2215 : ad 22 ≠ ad 15 := hB.ne (by omega) (by omega) (by omega)
  have n3722 : ad 37 ≠ ad 22 := hB.ne (by omega) (by omega) (by omega)
  have n1522 : ad 15 ≠ ad 22 := n2215.symm
  have n3615 : ad 36 ≠ ad 15 := hB.ne (by omega) (by omega) (by omega)
  have n : ∀ (k : Int32) (m : Nat), k.toInt = m → x1 = k → o = m := fun k m hk e => by rw [e, hk] at hx; omega
  have up : ∀ (h' : xb_H) (C : List Nat), stp C [] own ad own ad h h' → (∀ k ∈ C, k = 15 ∨ k = 37) → stp [15, 22, 37] [] own ad own ad h h' ∧ wI own ad h' W σ := fun h' C s hC => ⟨s.mono (fun k hk => by have := hC k hk; simp; omega) (fun k hk => hk), hW.mc hB s (fun k hk => by have := hC k hk; omega) (fun h9 => by have := hC 22 h9; omega)⟩
  have nt : ∀ i : Nat, ct_B (dnu (wd W (gI (gx (D - 1))))) p0 E (gA (gx (D - 1)) + 1) i → vp_in (xb_i h (ad 15) 15 + 1) (xb_n h (dnt (wd W (gI (gx (D - 1)))))) ∧ (xb_i h (dnt (wd W (gI (gx (D - 1))))) (xb_i h (ad 15) 15 + 1).toNatClampNeg).toInt = i := by
    intro i hi
    have e9 : (xb_i h (ad 15) 15 + 1).toInt = (gA (gx (D - 1)) + 1 : Nat) := z_inc t2 (by have := hi.2.1; omega)
    refine ⟨by rw [z_in, e9, m8]; have := hi.2.1; omega, ?_⟩
    rw [z_cl, e9, Int.toNat_natCast, m9]
    exact hi.2.2
  unfold w_Machine_useNamed w_Machine_useNamed_L184
  by_cases h9 : o ≤ 34
  · obtain ⟨i, pa, P', x, f1, f2, f3, f4, f5, f6, f7, f8, f9⟩ := hl.2.2.2.2.2.2.2.2.2.2.2.2.2.1 (by omega) (by omega)
    obtain ⟨y1, y2⟩ := nt i f2
    have eP : P' = P := by omega
    subst eP
    have epa : (dvs (wd W (gI (gx (D - 1)))) 0 (5 * t + 1)).toInt.toNat = pa := by omega
    rw [epa] at b5
    refine ⟨k15, _, t7, m7, y1, fun v5 e5 => ?_⟩
    have hv5 : v5.toInt = i := by rw [e5]; exact y2
    obtain ⟨w1, w2, w3, w4⟩ := hr.lc hS hv5 f5
    refine ⟨fun e => ⟨ad 37, r9, k37, w3, ?_⟩, fun e h13 e13 => ?_, fun e => ?_, fun e => ?_, fun _ _ _ e => ?_⟩
    · have h0 := f7 (by have := n 32 32 rfl e; omega)
      have hlen := (g0 _ _ _ h0).1.2.2.1
      simp only [List.length_cons] at hlen
      rw [w2]
      refine hr.pu hB hS (by omega) (b5 i f5) (fun h' s r rv rk _ => ?_)
      obtain ⟨u1, u2⟩ := up h' _ s (by simp)
      exact hQ h' _ x u1 u2 r f6 h0 rk ⟨i, f1, .inl ⟨n 32 32 rfl e, rv, (s.cm hB (by decide) (fun x hx => by cases hx) (k := 22) (by omega) (by decide)).2.2.1, rfl⟩⟩
    · obtain ⟨c, hc, h0⟩ := f8 (by have := n 33 33 rfl e; omega)
      obtain ⟨p1, p2, p3, p4⟩ := hr.tp1 hS hc
      have i13 : xb_i h13 (ad 15) = va_up (xb_i h (ad 15)) 10 (xb_i h (ad 15) 10 - 1) := by rw [e13, xh_iI, if_pos rfl]
      have s13 : stp [15] [] own ad own ad h h13 := by rw [e13]; exact stp.Ic hB
      have i1310 : xb_i h13 (ad 15) 10 = xb_i h (ad 15) 10 - 1 := by rw [i13, xh_up, if_pos rfl]
      have i1316 : xb_i h13 (ad 15) 16 = xb_i h (ad 15) 16 := by rw [i13, xh_up, if_neg (by omega)]
      have n13 : xb_n h13 = xb_n h := by rw [e13, xh_nI]
      have l13 : xb_l h13 = xb_l h := by rw [e13, xh_lI]
      refine ⟨ad 37, s13.1.r (15, 9, 37) (by decide), ad 37, s13.1.r (15, 9, 37) (by decide), s13.1.k 37 (by omega), by rw [i1310, n13]; exact p1, s13.1.k 37 (by omega), by rw [i1316, n13]; exact w3, fun h20 e20 => ?_⟩
      rw [i1316, i1310, w2, p3, l13] at e20
      have s20 : stp [37] [] own ad own ad h13 h20 := by rw [e20]; exact stp.Lc s13.1
      have sA := s13.tr s20
      obtain ⟨u1, u2⟩ := up h20 _ sA (by simp)
      rw [hc] at b6 b7
      simp only [List.length_cons] at b7
      refine hQ h20 c x u1 u2 (hr.ls f5 (v := xb_l h (ad 37) (gO (gx (D - 1)) + c.length)) (by rw [epa]; exact p4) (fun j hj => by rw [e20, xh_iL, i13, xh_up, if_neg hj]) (by rw [e20, xh_rL, e13, xh_rI]) (by rw [e20, xh_iL, e13, xh_iI, if_neg n3815]) (by rw [e20, xh_nL, n13]) (by rw [e20, xh_lL, if_pos rfl, l13]) (by rw [e20, xh_iL, i1310]; exact p2) (by omega) b6.2) f6 h0 ⟨by rw [e20, xh_lL, if_neg n1537, l13], by rw [e20, xh_iL, i13, xh_up, if_neg (by omega)], by rw [e20, xh_iL, e13, xh_iI, if_neg n3615]⟩ ⟨i, f1, .inr (.inl ⟨n 33 33 rfl e, by rw [e20, xh_lL, if_pos rfl, l13, hc]; rfl, by rw [e20, xh_lL, if_neg n3722.symm, l13], by rw [hc]; rfl⟩)⟩
    · obtain ⟨c, hc, h0⟩ := f9 (by have := n 34 34 rfl e; omega)
      obtain ⟨p1, p2, p3, p4⟩ := hr.tp1 hS hc
      refine ⟨ad 37, r9, ad 37, r9, k37, p1, k37, w3, fun h28 e28 => ?_⟩
      rw [w2, p3] at e28
      have s28 : stp [37] [] own ad own ad h h28 := by rw [e28]; exact stp.Lc hB
      obtain ⟨u1, u2⟩ := up h28 _ s28 (by simp)
      exact hQ h28 _ x u1 u2 (hr.ls f5 (v := xb_l h (ad 37) (gO (gx (D - 1)) + c.length)) (by rw [epa]; exact p4) (fun j hj => by rw [e28, xh_iL]) (by rw [e28, xh_rL]) (by rw [e28, xh_iL]) (by rw [e28, xh_nL]) (by rw [e28, xh_lL, if_pos rfl]) (by rw [e28, xh_iL]; exact t1) (by omega) b6) f6 h0 ⟨by rw [e28, xh_lL, if_neg n1537], by rw [e28, xh_iL], by rw [e28, xh_iL]⟩ ⟨i, f1, .inr (.inr (.inl ⟨n 34 34 rfl e, by rw [e28, xh_lL, if_pos rfl, hc]; rfl, by rw [e28, xh_lL, if_neg n3722.symm], rfl⟩))⟩
    · have := n 35 35 rfl e
      omega
    · intro e9
      exfalso
      have h34 : o = 32 ∨ o = 33 ∨ o = 34 := by omega
      rename_i z1 z2 z3
      rw [z_eq, hx] at z1 z2 z3
      simp only [Int32.reduceToInt] at z1 z2 z3
      omega
  · obtain ⟨i, x, f1, f2, f3, f4, f5, f6⟩ := hl.2.2.2.2.2.2.2.2.2.2.2.2.2.2.1 (by omega) (by omega)
    obtain ⟨y1, y2⟩ := nt i f2
    obtain ⟨v1, v2, v3⟩ := hW.2.1
    refine ⟨k15, _, t7, m7, y1, fun v5 e5 => ?_⟩
    have hv5 : v5.toInt = i := by rw [e5]; exact y2
    refine ⟨fun e => ?_, fun e => ?_, fun e => ?_, fun e => ⟨ad 14, hB.r (15, 0, 14) (by decide), hB.k 14 (by omega), ad 21, hB.r (14, 3, 21) (by decide), hB.k 21 (by omega), ad 22, hB.r (21, 0, 22) (by decide), _, t5, q1, iO_variableId hiO v2 hv5 f3 (fun r38 vv j1 j2 ⟨j3, j3v⟩ _ => ⟨hB.k 22 (by omega), ?_, ?_⟩)⟩, fun z1 z2 z3 z4 h43 e43 => ?_⟩
    · have := n 32 32 rfl e
      omega
    · have := n 33 33 rfl e
      omega
    · have := n 34 34 rfl e
      omega
    · have := v1.2.2.2.2.2.1
      rw [z_in, j1]
      omega
    · have h0 := f5 (by have := n 35 35 rfl e; omega)
      have hlen := (g0 _ _ _ h0).1.2.2.1
      simp only [List.length_cons] at hlen
      rw [z_cl, j1, Int.toNat_natCast]
      refine hr.pu hB hS (by omega) (τ := (dvs (wd W (gI (gx (D - 1)))) 5 (4 * i + 1)).toInt) (by rw [← j3]; exact (v3 vv j2).2) (fun h' s r rv rk _ => ?_)
      obtain ⟨u1, u2⟩ := up h' _ s (by simp)
      exact hQ h' _ x u1 u2 r f4 h0 rk ⟨i, f1, .inr (.inr (.inr (.inl ⟨n 35 35 rfl e, by rw [rv, j3v], (s.cm hB (by decide) (fun x hx => by cases hx) (k := 22) (by omega) (by decide)).2.2.1, rfl⟩)))⟩
    · have o36 : o = 36 := by
        rw [z_eq, hx] at z4
        simp only [Int32.reduceToInt] at z4
        omega
      obtain ⟨-, c, hc, h0⟩ := f6 (by omega)
      obtain ⟨p1, p2, p3, p4⟩ := hr.tp1 hS hc
      have hp := hr.pop hB hc p2
      rw [← e43] at hp
      have s43 : stp [15] [] own ad own ad h h43 := by rw [e43]; exact stp.Ic hB
      have i4310 : xb_i h43 (ad 15) 10 = xb_i h (ad 15) 10 - 1 := by rw [e43, xh_iI, if_pos rfl, xh_up, if_pos rfl]
      obtain ⟨u1, u2⟩ := up h43 _ s43 (by simp)
      obtain ⟨l5', hiO'⟩ := u2.2.2.2.2.2.2.1.2.2.2 _ a5
      obtain ⟨v1', v2', v3'⟩ := u2.2.1
      have n43 : xb_n h43 = xb_n h := by rw [e43, xh_nI]
      have l43 : xb_l h43 = xb_l h := by rw [e43, xh_lI]
      refine ⟨ad 14, s43.1.r (15, 0, 14) (by decide), s43.1.k 14 (by omega), ad 21, s43.1.r (14, 3, 21) (by decide), s43.1.k 21 (by omega), ad 22, s43.1.r (21, 0, 22) (by decide), _, by rw [e43, xh_rI]; exact t5, hiO'.1.1, iO_variableId hiO' v2' hv5 f3 (fun r52 vv j1 j2 ⟨j3, j3v⟩ _ => ⟨ad 37, s43.1.r (15, 9, 37) (by decide), s43.1.k 37 (by omega), by rw [i4310, n43]; exact p1, s43.1.k 22 (by omega), ?_, fun h58 e58 => ?_⟩)⟩
      · have := v1'.2.2.2.2.2.1
        rw [z_in, j1]
        omega
      · rw [i4310, p3, l43, z_cl, j1, Int.toNat_natCast] at e58
        have s58 : stp [22] [] own ad own ad h43 h58 := by rw [e58]; exact stp.Lc s43.1
        have sA : stp [15, 22, 37] [] own ad own ad h h58 := (s43.tr s58).mono (by decide) (fun k hk => by simpa using hk)
        have w58 : wI own ad h58 W σ := u2.mc s43.1 s58 (by simp) (fun _ v hv => ?_)
        · have ev : vnI h43 W (gI (gx (D - 1))) i = vnI h W (gI (gx (D - 1))) i := by
            unfold vnI
            rw [l43, show xb_r h43 = xb_r h by rw [e43, xh_rI]]
          refine hQ h58 c x sA w58 ?_ f4 h0 ⟨by rw [e58, xh_lL, if_neg n1522, l43], by rw [e58, xh_iL, e43, xh_iI, if_pos rfl, xh_up, if_neg (by omega)], by rw [e58, xh_iL, e43, xh_iI, if_neg n3615]⟩ ⟨i, f1, .inr (.inr (.inr (.inr ⟨o36, by rw [e58, xh_lL, if_neg n3722, l43], by rw [e58, xh_lL, if_pos rfl, l43, j3v, ev, hc]; rfl, by rw [hc]; rfl⟩)))⟩
          rw [e58]
          obtain ⟨d', t', h3', ⟨aa, aa5, bb1, bb2, bb3, bb7, bb5, bb6⟩, h4', h5'⟩ := hp
          refine ⟨d', t', fun j hj => ?_, ⟨aa, aa5, bb1, bb2, bb3, bb7, fun k hk => ?_, ?_⟩, h4', h5'⟩
          · rw [xh_lL, if_neg n3722]
            exact h3' j hj
          · rw [xh_lL, if_neg n3722]
            exact bb5 k hk
          · rw [xh_lL, if_neg n3722]
            exact bb6
        · rw [e58, xh_lL, if_pos rfl, xh_up]
          split
          · rename_i e9
            rw [e9, j3]
            exact p4
          · exact (v3' v hv).2
end US1
