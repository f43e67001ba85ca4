-- equality, checking a body: the types (pure), and what the reference does with them
/-- something open: kind, label's type, end's type, the types below, dead -/
abbrev s5 : Type := Int × Int × Int × List Int × Int
def s5k (f : s5) : Int := f.1
def s5l (f : s5) : Int := f.2.1
def s5e (f : s5) : Int := f.2.2.1
def s5b (f : s5) : List Int := f.2.2.2.1
def s5d (f : s5) : Int := f.2.2.2.2
def die5 (f : s5) : s5 := (s5k f, s5l f, s5e f, s5b f, 1)
def sp5 (f : ckF) : s5 := (fk f, fl_ f, fe f, fb f, fd f)
/-- types, what is open, the most types so far -/
abbrev cO : Type := List Int × List s5 × Int
def tkO (f : s5) (cur : List Int) (x : Int) : Except Nat (Int × List Int) :=
  if x = 64 then .ok (64, cur) else if cur.length ≤ (s5b f).length then (if s5d f = 0 then .error 21 else .ok (0, cur)) else
    match cur with
    | y :: c => if y = x ∨ y = 0 ∨ x = 0 then .ok (y, c) else .error 21
    | [] => .error 21
def tkL (f : s5) : List Int → List Int → Except Nat (List Int)
  | cur, [] => .ok cur
  | cur, x :: xs => (tkO f cur x).bind (fun a => tkL f a.2 xs)
def labO (fs : List s5) (y : Nat) : Except Nat Int :=
  match fs[y]? with
  | some f => .ok (s5l f)
  | none => .error 20
def cl5 (f : s5) (cur : List Int) : Except Nat Unit := (tkO f cur (s5e f)).bind (fun a => if a.2.length = (s5b f).length then .ok () else .error 21)
def ptC (c : List Int) (g x : Int) (fs : List s5) : cO := if x = 64 then (c, fs, g) else (x :: c, fs, max g (c.length + 1))
/-- the reference while an instruction is checked: if something is wrong, R is this fault -/
def gd (D : zM) (q : Nat) (R : Except Nat cO) (v : Nat → Int32) : Prop := (v 14).toInt = qb D ∧ (v 92).toInt = q ∧ qb D ≤ 12000 ∧ q ≤ 12000 ∧ (v 17 ≠ 0 → ∃ c : Nat, R = .error c ∧ (v 17).toInt = c ∧ (v 18).toInt + qb D = q)
theorem ebA {ε α β γ : Type} {P : Except ε α} {G : α → Except ε β} {H : β → Except ε γ} : (P.bind G).bind H = P.bind (fun a => (G a).bind H) := by
  cases P <;> rfl
section RKC
variable {own : Nat → Nat} {mm m : Nat} {A : Nat → Nat} {h : xb_H} {F F' F2 : Nat → Nat → Int32} {v v' v2 cb : Nat → Int32} {D : zM} {cur ex : List Int} {fs r : List ckF} {f : ckF} {g : Int} {t q : Nat}
theorem tkO_64 {f : s5} {x : Int} (h1 : x = 64) : tkO f cur x = .ok (64, cur) := if_pos h1
theorem tkO_g {f : s5} {x y : Int} {c : List Int} (h1 : x ≠ 64) (h2 : (s5b f).length < (y :: c).length) (h3 : y = x ∨ y = 0 ∨ x = 0) : tkO f (y :: c) x = .ok (y, c) := by
  unfold tkO
  rw [if_neg h1, if_neg (by omega)]
  exact if_pos h3
theorem tkO_b {f : s5} {x y : Int} {c : List Int} (h1 : x ≠ 64) (h2 : (s5b f).length < (y :: c).length) (h3 : ¬ (y = x ∨ y = 0 ∨ x = 0)) : tkO f (y :: c) x = .error 21 := by
  unfold tkO
  rw [if_neg h1, if_neg (by omega)]
  exact if_neg h3
theorem tkO_d {f : s5} {x : Int} (h1 : x ≠ 64) (h2 : cur.length ≤ (s5b f).length) (h3 : ¬ s5d f = 0) : tkO f cur x = .ok (0, cur) := by
  unfold tkO
  rw [if_neg h1, if_pos h2, if_neg h3]
theorem tkO_n {f : s5} {x : Int} (h1 : x ≠ 64) (h2 : cur.length ≤ (s5b f).length) (h3 : s5d f = 0) : tkO f cur x = .error 21 := by
  unfold tkO
  rw [if_neg h1, if_pos h2, if_pos h3]
theorem tkL_b {f : s5} {x : Int} {xs : List Int} {K : List Int → Except Nat cO} : (tkL f cur (x :: xs)).bind K = (tkO f cur x).bind (fun a => (tkL f a.2 xs).bind K) := ebA
theorem labO_n {fs : List s5} {y : Nat} (h1 : fs.length ≤ y) : labO fs y = .error 20 := by
  unfold labO
  rw [List.getElem?_eq_none h1]
theorem labO_s {fs : List ckF} {y : Nat} {f' : ckF} (h1 : fs[y]? = some f') : labO (fs.map sp5) y = .ok (fl_ f') := by
  unfold labO
  rw [List.getElem?_map, h1]
  rfl
theorem gd.fr {R : Except Nat cO} (h1 : gd D q R v) (h2 : ∀ j, j ≠ 22 → j ≠ 23 → j ≠ 29 → j ≠ 20 → v' j = v j) : gd D q R v' := by
  unfold gd
  rw [h2 14 (by decide) (by decide) (by decide) (by decide), h2 92 (by decide) (by decide) (by decide) (by decide), h2 17 (by decide) (by decide) (by decide) (by decide), h2 18 (by decide) (by decide) (by decide) (by decide)]
  exact h1
/-- read again, nothing wrong -/
theorem gd.vk {R : Except Nat cO} {p : Nat} (h1 : gd D q R v) (h2 : vk v v' D p) : gd D q R v' := ⟨h2.2.1, by rw [h2.1 92 (by decide) (by decide) (by decide) (by decide) (by decide)]; exact h1.2.1, h1.2.2.1, h1.2.2.2.1, fun hn => absurd h2.2.2.2 hn⟩
theorem gd.ro {R : Except Nat cO} {p p' e : Nat} (h1 : gd D q R v) (h2 : ro v v' p p' e) (hz : v' 17 = 0) : gd D q R v' := ⟨by rw [h2.e14]; exact h1.1, by rw [h2.1 92 (by decide) (by decide) (by decide)]; exact h1.2.1, h1.2.2.1, h1.2.2.2.1, fun hn => absurd hz hn⟩
theorem gd_fail {c x : Int32} {cc : Nat} {R : Except Nat cO} {Qr : xb_H → Prop} (hk : xb_k h mm = 9) (hgd : gd D q R v) (hc : c.toInt = cc) (h0 : cc ≠ 0) (hx : x = v 92) (hR : v 17 = 0 → R = .error cc) (hQ : ∀ v' : Nat → Int32, (∀ j, j ≠ 17 → j ≠ 18 → v' j = v j) → v' 17 ≠ 0 → gd D q R v' → Qr (mH h F mm v')) : w_M_fail mm c x (mH h F mm v) Qr := by
  by_cases hz : v 17 = 0
  · refine k_fail (cc := cc) (w := q) hk hgd.1 hgd.2.2.1 hc h0 (by rw [hx]; exact hgd.2.1) hgd.2.2.2.1 hz (fun v' g1 g2 g3 => hQ v' g1 g2 ⟨by rw [g1 14 (by decide) (by decide)]; exact hgd.1, by rw [g1 92 (by decide) (by decide)]; exact hgd.2.1, hgd.2.2.1, hgd.2.2.2.1, fun _ => ⟨cc, hR hz, g3.2⟩⟩)
  · exact k_failn hk hz (hQ v (fun _ _ _ => rfl) hz hgd)
theorem x_take {x : Int32} {Qr : Int32 → xb_H → Prop} {R : Except Nat cO} {K : Int × List Int → Except Nat cO} (hB : mB own mm A h) (hgd : gd D q R v) (hR : v 17 = 0 → R = (tkO (sp5 f) cur x.toInt).bind K) (hS : zS A F v cur (f :: r) g) (hex : cur = ex ++ fb f) (hl : cur.length ≤ 60000) (hfl : (f :: r).length ≤ 201) (hx : x.toInt ≠ 64)
    (hQ : ∀ (u : Int32) (v' : Nat → Int32) (cur' ex' : List Int), (∀ j, j ≠ 17 → j ≠ 18 → j ≠ 22 → v' j = v j) → zS A F v' cur' (f :: r) g → cur' = ex' ++ fb f → (∀ y ∈ cur', y ∈ cur) → cur'.length ≤ cur.length → (u.toInt = 0 ∨ u.toInt ∈ cur) → (v' 17 = 0 → v 17 = 0 ∧ ck_tk f cur x.toInt u.toInt cur') → gd D q R v' → (v' 17 = 0 → R = K (u.toInt, cur')) → Qr u (mH h F mm v')) : w_M_take mm x (mH h F mm v) Qr := by
  obtain ⟨s1, s2, s3, s4, s5, s6, s7⟩ := id hS
  obtain ⟨⟨f1, f2, f3, f4, f5⟩, sr⟩ := id s5
  obtain ⟨a1, a2, a3, a4⟩ := hB.kx (k := 27) (kd := 102) (n := 202) (by decide) (by decide)
  obtain ⟨c1, c2, c3, c4⟩ := hB.kx (k := 21) (kd := 100) (n := 70000) (by decide) (by decide)
  obtain ⟨d1, d2, d3, d4⟩ := hB.kx (k := 28) (kd := 101) (n := 202) (by decide) (by decide)
  have e29 : (v 29 - 1).toInt = r.length := by
    rw [z_sub, s2]
    simp only [Int32.reduceToInt, List.length_cons] at hfl ⊢
    omega
  have c29 : (v 29 - 1).toNatClampNeg = r.length := by
    rw [z_cl, e29]
    omega
  simp only [List.length_cons] at hfl
  have in29 : ∀ n : Nat, 202 = n → vp_in (v 29 - 1) n := fun n hn => by
    rw [z_in, e29]
    omega
  unfold w_M_take
  rw [mH_i]
  refine ⟨hB.2.1, A 27, a1, a2, in29 _ a3.symm, ?_, ?_⟩
  · rw [mH_o a4, c29]
    intro hne h6 e6
    rw [mH_I] at e6
    subst e6
    have hne' : cur.length ≠ (fb f).length := fun e9 => hne (by rw [z_eq, s1, f4, e9])
    cases hc : ex with
    | nil =>
      rw [hc] at hex
      exact absurd (by rw [hex]; rfl) hne'
    | cons y ex2 =>
      rw [hc] at hex
      have e22 : (v 22 - 1).toInt = (ex2 ++ fb f).length := by
        rw [z_sub, s1, hex]
        rw [hex] at hl
        simp only [Int32.reduceToInt, List.length_cons, List.cons_append] at hl ⊢
        omega
      obtain ⟨w, hw⟩ : ∃ w : Nat → Int32, w = va_up v 22 (v 22 - 1) := ⟨_, rfl⟩
      rw [← hw]
      have wj : ∀ j, j ≠ 22 → w j = v j := fun j hj => by rw [hw, xh_up, if_neg hj]
      have w22 : (w 22).toInt = (ex2 ++ fb f).length := by rw [hw, xh_up, if_pos rfl]; exact e22
      rw [mH_i]
      have hS' : ∀ v2 : Nat → Int32, (∀ j, j ≠ 17 → j ≠ 18 → v2 j = w j) → zS A F v2 (ex2 ++ fb f) (f :: r) g := fun v2 h2 => by
        refine ⟨by rw [h2 22 (by decide) (by decide)]; exact w22, by rw [h2 29 (by decide) (by decide), wj 29 (by decide)]; exact s2, by rw [h2 23 (by decide) (by decide), wj 23 (by decide)]; exact s3, ?_, s5, s6, s7⟩
        rw [hex] at s4
        exact s4.2
      have hy : (F (A 21) (ex2 ++ fb f).length).toInt = y := by
        rw [hex] at s4
        exact s4.1
      refine ⟨A 21, c1, c2, ?_, fun v10 e10 => ?_⟩
      · rw [z_in, w22]
        show _ ∧ _ < ((xb_n h (A 21) : Nat) : Int)
        rw [hex] at hl
        simp only [List.length_cons, List.cons_append] at hl
        omega
      · rw [mH_o c4, z_cl, w22, Int.toNat_natCast] at e10
        have ey : v10.toInt = y := by rw [e10]; exact hy
        have mem : y ∈ cur := by rw [hex]; simp
        have sub : ∀ z ∈ ex2 ++ fb f, z ∈ cur := fun z hz => by rw [hex]; exact List.mem_cons_of_mem _ hz
        have len : (ex2 ++ fb f).length ≤ cur.length := by rw [hex]; simp
        have gw : gd D q R w := hgd.fr (fun j h1 h2 h3 h4 => wj j h1)
        have good : (x = 0 ∨ v10 = 0 ∨ v10 = x) → w_M_take_L87 Qr v10 (mH h F mm w) := fun hc => by
          unfold w_M_take_L87
          have hc' : y = x.toInt ∨ y = 0 ∨ x.toInt = 0 := by
            rw [← ey]
            rcases hc with hc | hc | hc
            · exact .inr (.inr (by rw [hc]; rfl))
            · exact .inr (.inl (by rw [hc]; rfl))
            · exact .inl (by rw [hc])
          refine hQ v10 w (ex2 ++ fb f) ex2 (fun j _ _ j3 => wj j j3) (hS' w (fun _ _ _ => rfl)) rfl sub len (.inr (by rw [ey]; exact mem)) (fun hz => ⟨by rw [← wj 17 (by decide)]; exact hz, .inr (.inl ⟨hx, by rw [ey, hex]; rfl, by simp, ?_⟩)⟩) gw (fun hz => by rw [hR (by rw [← wj 17 (by decide)]; exact hz), hex, List.cons_append, tkO_g hx (by show (fb f).length < _; simp; omega) hc', ey]; rfl)
          rw [ey]
          rcases hc with hc | hc | hc
          · exact .inr (.inr (by rw [hc]; rfl))
          · exact .inr (.inl (by rw [← ey, hc]; rfl))
          · exact .inl (by rw [← ey, hc])
        refine ⟨fun h0 => good (.inl h0), fun n1 => ⟨fun h0 => good (.inr (.inl h0)), fun n2 => ⟨fun h0 => good (.inr (.inr h0)), fun n3 => gd_fail hB.2.1 gw (cc := 21) rfl (by decide) (by first | rfl | rw [mH_i]) (fun hz => ?_) (fun v' g1 g2 gg _ => ?_)⟩⟩⟩
        · rw [hR (by rw [← wj 17 (by decide)]; exact hz), hex, List.cons_append, tkO_b hx (by show (fb f).length < _; simp; omega) ?_]
          · rfl
          · rw [← ey]
            rintro (h9 | h9 | h9)
            · exact n3 (by rw [z_eq, h9])
            · exact n2 (by rw [z_eq, h9]; rfl)
            · exact n1 (by rw [z_eq, h9]; rfl)
        unfold w_M_take_L87
        exact hQ v10 v' (ex2 ++ fb f) ex2 (fun j j1 j2 j3 => (g1 j j1 j2).trans (wj j j3)) (hS' v' g1) rfl sub len (.inr (by rw [ey]; exact mem)) (fun hz => absurd hz g2) gg (fun hz => absurd hz g2)
  · rw [mH_o a4, c29]
    intro heq
    have hle : cur.length ≤ (fb f).length := by
      rw [z_eq, s1, f4] at heq
      omega
    refine ⟨A 28, d1, d2, in29 _ d3.symm, ?_, ?_⟩
    all_goals
      rw [mH_o d4]
      intro hd
    · unfold w_M_take_L42
      refine hQ 0 v cur ex (fun _ _ _ _ => rfl) hS hex (fun y hy => hy) (Nat.le_refl _) (.inl rfl) (fun hz => ⟨hz, .inr (.inr ⟨hx, hle, fun e9 => hd (by rw [z_eq, f5, e9]; rfl), rfl, rfl⟩)⟩) hgd (fun hz => by rw [hR hz, tkO_d hx hle (fun e9 => hd (by rw [z_eq, f5, show fd f = 0 from e9]; rfl))]; rfl)
    · unfold w_M_take_L42
      refine gd_fail hB.2.1 hgd (cc := 21) rfl (by decide) (by first | rfl | rw [mH_i]) (fun hz => by rw [hR hz, tkO_n hx hle (by show fd f = 0; rw [← f5, hd]; rfl)]; rfl) (fun v' g1 g2 gg _ => hQ 0 v' cur ex (fun j j1 j2 _ => g1 j j1 j2) (hS.vj (g1 22 (by decide) (by decide)) (g1 23 (by decide) (by decide)) (g1 29 (by decide) (by decide))) hex (fun y hy => hy) (Nat.le_refl _) (.inl rfl) (fun hz => absurd hz g2) gg (fun hz => absurd hz g2))
theorem x_takeResult {x : Int32} {Qr : xb_H → Prop} {R : Except Nat cO} {K : Int × List Int → Except Nat cO} (hB : mB own mm A h) (hgd : gd D q R v) (hR : v 17 = 0 → R = (tkO (sp5 f) cur x.toInt).bind K) (hS : zS A F v cur (f :: r) g) (hex : cur = ex ++ fb f) (hl : cur.length ≤ 60000) (hfl : (f :: r).length ≤ 201)
    (hQ : ∀ (rr : Int) (v' : Nat → Int32) (cur' ex' : List Int), (∀ j, j ≠ 17 → j ≠ 18 → j ≠ 22 → v' j = v j) → zS A F v' cur' (f :: r) g → cur' = ex' ++ fb f → (∀ y ∈ cur', y ∈ cur) → cur'.length ≤ cur.length → (v' 17 = 0 → v 17 = 0 ∧ ck_tk f cur x.toInt rr cur') → gd D q R v' → (v' 17 = 0 → R = K (rr, cur')) → Qr (mH h F mm v')) : w_M_takeResult mm x (mH h F mm v) Qr := by
  unfold w_M_takeResult w_M_takeResult_L12
  refine ⟨fun h64 => hQ 64 v cur ex (fun _ _ _ _ => rfl) hS hex (fun _ h => h) (Nat.le_refl _) (fun hz => ⟨hz, .inl ⟨by rw [h64]; rfl, rfl, rfl⟩⟩) hgd (fun hz => by rw [hR hz, tkO_64 (by rw [h64]; rfl)]; rfl), fun h64 => ⟨hB.2.1, x_take hB hgd hR hS hex hl hfl (fun e9 => h64 (by rw [z_eq, e9]; rfl)) (fun u v' cur' ex' g1 g2 g3 g4 g5 _ g7 g8 g9 _ => hQ u.toInt v' cur' ex' g1 g2 g3 g4 g5 g7 g8 g9)⟩⟩
theorem x_need {x1 x2 : Int32} {Qr : xb_H → Prop} {R K : Except Nat cO} {cc : Nat} (hk : xb_k h mm = 9) (hgd : gd D q R v) (hc : x2.toInt = cc) (hc0 : cc ≠ 0) (hR : v 17 = 0 → (x1 ≠ 0 → R = K) ∧ (x1 = 0 → R = .error cc)) (hQ : ∀ v' : Nat → Int32, (∀ j, j ≠ 17 → j ≠ 18 → v' j = v j) → (v' 17 = 0 → v 17 = 0 ∧ x1 ≠ 0) → (x1 ≠ 0 → v' = v) → gd D q R v' → (v' 17 = 0 → R = K) → Qr (mH h F mm v')) : w_M_need mm x1 x2 (mH h F mm v) Qr := by
  unfold w_M_need w_M_need_L13
  exact ⟨fun hn => hQ v (fun _ _ _ => rfl) (fun hz => ⟨hz, hn⟩) (fun _ => rfl) hgd (fun hz => (hR hz).1 hn), fun h0 => ⟨hk, gd_fail hk hgd (cc := cc) hc hc0 (by first | rfl | rw [mH_i]) (fun hz => (hR hz).2 h0) (fun v' g1 g2 gg _ => hQ v' g1 (fun hz => absurd hz g2) (fun hn => absurd h0 hn) gg (fun hz => absurd hz g2))⟩⟩
theorem x_label {x : Int64} {Qr : Int32 → xb_H → Prop} {R : Except Nat cO} {K : Int → Except Nat cO} (hB : mB own mm A h) (hgd : gd D q R v) (hR : v 17 = 0 → R = (labO (fs.map sp5) x.toInt.toNat).bind K) (hS : zS A F v cur fs g) (hfl : fs.length ≤ 201) (hx : 0 ≤ x.toInt ∧ x.toInt < 4294967296)
    (hQ : ∀ (u : Int32) (v' : Nat → Int32), (∀ j, j ≠ 17 → j ≠ 18 → v' j = v j) → (v' 17 = 0 → v 17 = 0 ∧ ∃ (i : Nat) (f' : ckF), x.toInt = i ∧ fs[i]? = some f' ∧ u.toInt = fl_ f') → (v' 17 ≠ 0 → u = 64) → gd D q R v' → (v' 17 = 0 → R = K u.toInt) → Qr u (mH h F mm v')) : w_M_label mm x (mH h F mm v) Qr := by
  obtain ⟨s1, s2, s3, s4, s5, s6, s7⟩ := id hS
  obtain ⟨a1, a2, a3, a4⟩ := hB.kx (k := 25) (kd := 102) (n := 202) (by decide) (by decide)
  have L16 : ∀ y0 : Int32, (y0 ≠ 0 ↔ x.toInt < fs.length) → w_M_label_L16 Qr mm x y0 mm (mH h F mm v) := fun y0 hy => by
    unfold w_M_label_L16 w_M_label_L47
    refine ⟨hB.2.1, x_need (cc := 20) hB.2.1 hgd rfl (by decide) (fun hz => ⟨fun _ => rfl, fun h0 => ?_⟩) (fun v' g1 g2 g3 gg _ _ => ⟨hB.2.1, ?_⟩)⟩
    · rw [hR hz, labO_n (by rw [List.length_map]; have := mt hy.mpr (fun h9 => h9 h0); omega)]
      rfl
    rw [mH_i]
    refine ⟨fun hn => hQ 64 v' g1 (fun hz => absurd hz hn) (fun _ => rfl) gg (fun hz => absurd hz hn), fun hz => ?_⟩
    obtain ⟨z1, z2⟩ := g2 hz
    have hlt := hy.mp z2
    have ev := g3 z2
    subst ev
    have e1 : (Int64.toInt32 x).toInt = x.toInt := by
      rw [z_of64]
      omega
    have e2 : (v' 29 - 1 - Int64.toInt32 x).toInt = (fs.length - 1 - x.toInt.toNat : Nat) := by
      have : (v' 29 - 1).toInt = (fs.length : Int) - 1 := by
        rw [z_sub, s2]
        simp only [Int32.reduceToInt]
        omega
      rw [z_sub, this, e1]
      omega
    refine ⟨A 25, a1, a2, ?_, ?_⟩
    · rw [z_in, e2]
      show _ ∧ _ < ((xb_n h (A 25) : Nat) : Int)
      omega
    · rw [mH_o a4, z_cl, e2, Int.toNat_natCast]
      have hi : x.toInt.toNat < fs.length := by omega
      obtain ⟨f', hf'⟩ : ∃ f', fs[x.toInt.toNat]? = some f' := ⟨fs[x.toInt.toNat], List.getElem?_eq_getElem hi⟩
      exact hQ _ v' (fun _ _ _ => rfl) (fun _ => ⟨z1, x.toInt.toNat, f', by omega, hf', (s5.at hf').2⟩) (fun hn => absurd hz hn) gg (fun _ => by rw [hR z1, labO_s hf', (s5.at hf').2]; rfl)
  unfold w_M_label
  rw [mH_i]
  refine ⟨hB.2.1, fun hle => L16 0 ⟨fun h9 => absurd rfl h9, fun h9 => ?_⟩, fun hle => L16 1 ⟨fun _ => ?_, fun _ => by decide⟩⟩
  · rw [Z_le, Z_of32, s2] at hle
    omega
  · rw [Z_le, Z_of32, s2] at hle
    omega
theorem x_closeOne {Qr : xb_H → Prop} {R K : Except Nat cO} (hB : mB own mm A h) (hgd : gd D q R v) (hR : v 17 = 0 → R = (cl5 (sp5 f) cur).bind (fun _ => K)) (hS : zS A F v cur (f :: r) g) (hex : cur = ex ++ fb f) (hl : cur.length ≤ 60000) (hfl : (f :: r).length ≤ 201)
    (hQ : ∀ (v' : Nat → Int32) (cur' : List Int), (∀ j, j ≠ 17 → j ≠ 18 → j ≠ 22 → j ≠ 29 → v' j = v j) → zS A F v' cur' r g → cur'.length ≤ cur.length → (v' 17 = 0 → v 17 = 0 ∧ cur' = fb f ∧ ∃ rr, ck_tk f cur (fe f) rr (fb f)) → gd D q R v' → (v' 17 = 0 → R = K) → Qr (mH h F mm v')) : w_M_closeOne mm (mH h F mm v) Qr := by
  obtain ⟨s1, s2, s3, s4, s5, s6, s7⟩ := id hS
  obtain ⟨⟨f1, f2, f3, f4, f5⟩, sr⟩ := id s5
  obtain ⟨a1, a2, a3, a4⟩ := hB.kx (k := 27) (kd := 102) (n := 202) (by decide) (by decide)
  obtain ⟨c1, c2, c3, c4⟩ := hB.kx (k := 26) (kd := 102) (n := 202) (by decide) (by decide)
  have e29 : ∀ v2 : Nat → Int32, v2 29 = v 29 → (v2 29 - 1).toInt = r.length := fun v2 h2 => by
    rw [h2, z_sub, s2]
    simp only [Int32.reduceToInt, List.length_cons] at hfl ⊢
    omega
  have c29 : ∀ v2 : Nat → Int32, v2 29 = v 29 → (v2 29 - 1).toNatClampNeg = r.length := fun v2 h2 => by
    rw [z_cl, e29 v2 h2]
    omega
  have in29 : ∀ (v2 : Nat → Int32) (n : Nat), v2 29 = v 29 → 202 = n → vp_in (v2 29 - 1) n := fun v2 n h2 hn => by
    rw [z_in, e29 v2 h2]
    simp only [List.length_cons] at hfl
    omega
  unfold w_M_closeOne
  rw [mH_i]
  refine ⟨hB.2.1, A 26, c1, c2, in29 v _ rfl c3.symm, ?_⟩
  rw [mH_o c4, c29 v rfl]
  refine x_takeResult hB hgd (K := fun a => (if a.2.length = (fb f).length then (.ok () : Except Nat Unit) else .error 21).bind (fun _ => K)) (fun hz => by rw [hR hz, f3]; unfold cl5; rw [ebA]; rfl) hS hex hl hfl (fun rr v1 cur1 ex1 g1 g2 g3 g4 g5 g6 gg gR _ => ⟨A 27, a1, a2, ?_⟩)
  rw [mH_i, mH_o a4, c29 v1 (g1 29 (by decide) (by decide) (by decide))]
  obtain ⟨t1, t2, t3, t4, t5, t6, t7⟩ := id g2
  rw [f3] at g6
  have fin : ∀ y0 : Int32, (y0 ≠ 0 ↔ cur1.length = (fb f).length) → w_M_closeOne_L39 Qr mm y0 mm (mH h F mm v1) := fun y0 hy => by
    unfold w_M_closeOne_L39
    refine ⟨hB.2.1, x_need (cc := 21) (K := K) hB.2.1 gg rfl (by decide) (fun hz => ⟨fun h0 => by rw [gR hz, if_pos (hy.mp h0)]; first | done | rfl, fun h0 => by rw [gR hz, if_neg (fun h9 => hy.mpr h9 h0)]; rfl⟩) (fun v2 n1 n2 n3 ng nR _ => ⟨hB.2.1, fun h5 e5 => ?_⟩)⟩
    rw [mH_i, mH_I] at e5
    subst e5
    refine hQ _ cur1 (fun j j1 j2 j3 j4 => by rw [xh_up, if_neg j4, n1 j j1 j2]; exact g1 j j1 j2 j3) ⟨?_, ?_, ?_, t4, sr, t6, t7⟩ g5 (fun hz => ?_) (ng.fr (fun j h1 h2 h3 h4 => by rw [xh_up, if_neg h3])) (fun hz => nR (by rw [xh_up, if_neg (by decide)] at hz; exact hz))
    · rw [xh_up, if_neg (by decide), n1 22 (by decide) (by decide)]; exact t1
    · rw [xh_up, if_pos rfl, e29 v2 ((n1 29 (by decide) (by decide)).trans (g1 29 (by decide) (by decide) (by decide)))]
    · rw [xh_up, if_neg (by decide), n1 23 (by decide) (by decide)]; exact t3
    · rw [xh_up, if_neg (by decide)] at hz
      obtain ⟨z1, z2⟩ := n2 hz
      obtain ⟨z3, z4⟩ := g6 z1
      have he : cur1 = fb f := by
        have := hy.mp z2
        rw [g3, List.length_append] at this
        have h0 : ex1 = [] := List.length_eq_zero_iff.mp (by omega)
        rw [g3, h0]
        rfl
      exact ⟨z3, he, rr, by rw [← he]; exact (by rw [he] at z4 ⊢; exact z4)⟩
  refine ⟨in29 v1 _ (g1 29 (by decide) (by decide) (by decide)) a3.symm, fun he => fin 0 ⟨fun h9 => absurd rfl h9, fun h9 => absurd (by rw [z_eq, t1, f4, h9]) he⟩, fun he => fin 1 ⟨fun _ => ?_, fun _ => by decide⟩⟩
  rw [z_eq, t1, f4] at he
  omega
theorem x_takeParameters {x1 x2 : Int32} {Qr : xb_H → Prop} {R : Except Nat cO} {K : List Int → Except Nat cO} (hX : mX own mm A h F m D) (hgd : gd D q R v) (hR : v 17 = 0 → R = (tkL (sp5 f) cur (ptl (qc D) (tPa D t) (tPn D t))).bind K) (h1 : x1.toInt = m) (h2 : x2.toInt = t) (ht : t < qt D 1) (hz : v 17 = 0) (hS : zS A F v cur (f :: r) g) (hex : cur = ex ++ fb f) (hl : cur.length ≤ 60000) (hfl : (f :: r).length ≤ 201)
    (hQ : ∀ (v' : Nat → Int32) (cur' ex' : List Int), bv v v' → zS A F v' cur' (f :: r) g → cur' = ex' ++ fb f → (∀ y ∈ cur', y ∈ cur) → cur'.length ≤ cur.length → (v' 17 = 0 → ck_tkl f cur (ptl (qc D) (tPa D t) (tPn D t)) cur') → gd D q R v' → (v' 17 = 0 → R = K cur') → Qr (mH h F mm v')) : w_M_takeParameters mm x1 x2 (mH h F mm v) Qr := by
  have hB := hX.1
  obtain ⟨b1, b2, b3, b4, -, -⟩ := hX.2.2.tb ht
  obtain ⟨n, p2, k', c1, c2, c3, c4, c5, c6, c7, c8, c9, c10, c11⟩ := hX.2.2.ty ht
  have key : ∀ (k : Nat) (x3 : Int32) (v1 : Nat → Int32) (cur1 ex1 : List Int), x3.toInt = (k : Int) - 1 → k ≤ tPn D t → bv v v1 → zS A F v1 cur1 (f :: r) g → cur1 = ex1 ++ fb f → (∀ y ∈ cur1, y ∈ cur) → cur1.length ≤ cur.length → (v1 17 = 0 → ∀ cur', ck_tkl f cur1 (ptl (qc D) (tPa D t) k) cur' → ck_tkl f cur (ptl (qc D) (tPa D t) (tPn D t)) cur') → gd D q R v1 → (v1 17 = 0 → R = (tkL (sp5 f) cur1 (ptl (qc D) (tPa D t) k)).bind K) → w_M_takeParameters_L9 Qr (k + 1) mm x1 x2 x3 (mH h F mm v1) := by
    intro k
    induction k with
    | zero =>
      intro x3 v1 cur1 ex1 e3 hk g1 g2 g3 g4 g5 g6 g7 g8
      unfold w_M_takeParameters_L9 w_M_takeParameters_L38
      rw [mH_i]
      refine ⟨fun _ => hQ v1 cur1 ex1 g1 g2 g3 g4 g5 (fun hz1 => g6 hz1 cur1 rfl) g7 g8, fun hn => ?_⟩
      rw [z_lt, e3] at hn
      simp only [Int32.reduceToInt] at hn
      omega
    | succ k ih =>
      intro x3 v1 cur1 ex1 e3 hk g1 g2 g3 g4 g5 g6 g7 g8
      unfold w_M_takeParameters_L9 w_M_takeParameters_L38
      rw [mH_i]
      refine ⟨fun hn => ?_, fun _ => ⟨hB.2.1, fun hn => hQ v1 cur1 ex1 g1 g2 g3 g4 g5 (fun hz1 => absurd hz1 hn) g7 (fun hz1 => absurd hz1 hn), fun hz1 => ?_⟩⟩
      · rw [z_lt, e3] at hn
        simp only [Int32.reduceToInt] at hn
        omega
      · refine m_parameter (k := k) hX hz1 h1 h2 ht (by rw [e3]; omega) (fun v2 u k2 u1 _ _ => ?_)
        have hu := u1 (by omega)
        have hty := c3 (tPa D t + k) (by omega) (by omega)
        obtain ⟨y1, y2, y3⟩ := ub_ty (hX.2.2.1 _) hty.1 hty.2
        have eu : u.toInt = (qc D (tPa D t + k)).toInt := by rw [hu, y1]
        refine x_take hB (g7.vk k2) (K := fun a => (tkL (sp5 f) a.2 (ptl (qc D) (tPa D t) k)).bind K) (fun _ => by rw [g8 hz1, ptl_s, eu]; exact tkL_b) (g2.vg k2.1) g3 (by omega) hfl (by omega) (fun w v3 cur3 ex3 d1 d2 d3 d4 d5 _ d7 dg dR _ => ih (x3 + -1) v3 cur3 ex3 ?_ (by omega) (g1.tr (k2.1.bv.tr (fun j _ _ _ j4 j5 j6 _ _ => d1 j j4 j5 j6))) d2 d3 (fun y hy => g4 y (d4 y hy)) (by omega) (fun hz3 cur' hc => ?_) dg dR)
        · rw [z_add, e3]
          simp only [Int32.reduceToInt]
          omega
        · obtain ⟨-, d8⟩ := d7 hz3
          refine g6 hz1 cur' ?_
          rw [ptl_s]
          rw [eu] at d8
          exact ⟨w.toInt, cur3, d8, hc⟩
  unfold w_M_takeParameters
  refine ⟨hB.2.1, m_parameters hX hz h1 h2 ht (fun v1 u k1 hu _ v4 e4 => ⟨tPn D t + 1, key (tPn D t) v4 v1 cur ex ?_ (Nat.le_refl _) k1.1.bv (hS.vg k1.1) hex (fun _ h => h) (Nat.le_refl _) (fun _ cur' h => h) (hgd.vk k1) (fun _ => hR hz)⟩)⟩
  rw [e4, z_sub, hu]
  simp only [Int32.reduceToInt]
  omega
end RKC
