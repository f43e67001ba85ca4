-- the checker in a body: only numbers change
def xb_W (h : xb_H) (F : Nat → Nat → Int32) : xb_H := (h.1, h.2.1, F, h.2.2.2.1, h.2.2.2.2)
theorem xW_I (h : xb_H) (F : Nat → Nat → Int32) (a k : Nat) (x : Int32) : xb_I (xb_W h F) a k x = xb_W h (va_up F a (va_up (F a) k x)) := rfl
theorem xW_self (h : xb_H) : xb_W h (xb_i h) = h := rfl
theorem xW_i (h : xb_H) (F : Nat → Nat → Int32) : xb_i (xb_W h F) = F := rfl
theorem xW_k (h : xb_H) (F : Nat → Nat → Int32) : xb_k (xb_W h F) = xb_k h := rfl
theorem xW_n (h : xb_H) (F : Nat → Nat → Int32) : xb_n (xb_W h F) = xb_n h := rfl
theorem xW_r (h : xb_H) (F : Nat → Nat → Int32) : xb_r (xb_W h F) = xb_r h := rfl
theorem xW_l (h : xb_H) (F : Nat → Nat → Int32) : xb_l (xb_W h F) = xb_l h := rfl
/-- a thing that is open: its kind, where it was opened, its label's and its end's type, the types below it, whether it is dead, and whether it was opened alive -/
abbrev ckF : Type := Int × Int × Int × Int × List Int × Int × Bool
def fk (f : ckF) : Int := f.1
def fa (f : ckF) : Int := f.2.1
def fl_ (f : ckF) : Int := f.2.2.1
def fe (f : ckF) : Int := f.2.2.2.1
def fb (f : ckF) : List Int := f.2.2.2.2.1
def fd (f : ckF) : Int := f.2.2.2.2.2.1
def fv (f : ckF) : Bool := f.2.2.2.2.2.2
/-- types in a row of bytes, the latest first -/
def cs_o (f : Nat → Int32) : List Int → Prop
  | [] => True
  | t :: r => (f r.length).toInt = t ∧ cs_o f r
theorem cs_o.up {f : Nat → Int32} {k : Nat} {w : Int32} : ∀ {t : List Int}, t.length ≤ k → cs_o f t → cs_o (va_up f k w) t
  | [], _, _ => trivial
  | x :: t, hk, h => ⟨by rw [xh_up, if_neg (by simp at hk; omega)]; exact h.1, h.2.up (by simp at hk; omega)⟩
theorem cs_o.suf {f : Nat → Int32} : ∀ {a b : List Int}, cs_o f (a ++ b) → cs_o f b
  | [], _, h => h
  | _ :: a, b, h => cs_o.suf (a := a) h.2
/-- the open things in their rows: kinds, places, labels, ends, heights, dead -/
def cf_o (G : Nat → Nat → Int32) : List ckF → Prop
  | [] => True
  | f :: r => ((G 1 r.length).toInt = fk f ∧ (G 2 r.length).toInt = fa f ∧ (G 3 r.length).toInt = fl_ f ∧ (G 4 r.length).toInt = fe f ∧ (G 5 r.length).toInt = (fb f).length ∧ (G 6 r.length).toInt = fd f) ∧ cf_o G r
theorem cf_o.cg {G G' : Nat → Nat → Int32} : ∀ {fs : List ckF}, (∀ k j, 1 ≤ k → k ≤ 6 → j < fs.length → G' k j = G k j) → cf_o G fs → cf_o G' fs
  | [], _, _ => trivial
  | f :: r, hg, h => by
    have hj : ∀ k, 1 ≤ k → k ≤ 6 → G' k r.length = G k r.length := fun k h1 h2 => hg k r.length h1 h2 (by simp)
    refine ⟨⟨?_, ?_, ?_, ?_, ?_, ?_⟩, h.2.cg (fun k j h1 h2 h3 => hg k j h1 h2 (by simp; omega))⟩
    · rw [hj 1 (by omega) (by omega)]; exact h.1.1
    · rw [hj 2 (by omega) (by omega)]; exact h.1.2.1
    · rw [hj 3 (by omega) (by omega)]; exact h.1.2.2.1
    · rw [hj 4 (by omega) (by omega)]; exact h.1.2.2.2.1
    · rw [hj 5 (by omega) (by omega)]; exact h.1.2.2.2.2.1
    · rw [hj 6 (by omega) (by omega)]; exact h.1.2.2.2.2.2
/-- all these lie apart -/
def ck_D (ck oa nt cd im : Nat) (ca rw : Nat → Nat) : Prop :=
  (oa ≠ cd ∧ oa ≠ ck ∧ oa ≠ nt ∧ oa ≠ im) ∧ (ck ≠ nt ∧ ck ≠ cd ∧ ck ≠ im) ∧ (nt ≠ cd ∧ nt ≠ im) ∧ (∀ k, k < 7 → ca k ≠ ck ∧ ca k ≠ oa ∧ ca k ≠ nt ∧ ca k ≠ cd ∧ ca k ≠ im) ∧ (∀ i j, i < 7 → j < 7 → ca i = ca j → i = j) ∧ (∀ k, k < 12 → rw k ≠ ck ∧ rw k ≠ oa ∧ rw k ≠ nt ∧ ∀ i, i < 7 → rw k ≠ ca i)
/-- the checker's numbers: types, open things, notes, the greatest number of types, place, locals, the body's type -/
def ck_S (ck oa nt cd im : Nat) (ca rw : Nat → Nat) (R0 : Nat → Nat → Int32) (cb iv : Nat → Int32) (F : Nat → Nat → Int32) (cur : List Int) (fs : List ckF) (ν lo : Nat → Int32) (g p lc ty : Int) : Prop :=
  ((F ck 4).toInt = cur.length ∧ (F ck 5).toInt = g ∧ (F ck 7).toInt = lc ∧ (F ck 8).toInt = ty ∧ (F ck 9).toInt = p ∧ (F ck 16).toInt = fs.length) ∧ cs_o (F oa) cur ∧ cf_o (fun k => F (ca k)) fs ∧ F nt = ν ∧ F (ca 0) = lo ∧ F cd = cb ∧ F im = iv ∧ (∀ k, k < 12 → F (rw k) = R0 k) ∧ (cur.length : Int) ≤ g
/-- numbers outside of the checker's own stay, and those of the module itself -/
def ck_Fr (S : Nat → Prop) (h0 h : xb_H) (F : Nat → Nat → Int32) : Prop := ∀ a, (xb_k h0 a ≠ 0 ∨ xb_k h a = 3) → ¬ S a → F a = xb_i h a
theorem ck_Fr.up {S : Nat → Prop} {h0 h : xb_H} {F : Nat → Nat → Int32} {b : Nat} {f : Nat → Int32} (hF : ck_Fr S h0 h F) (hb : S b ∨ (xb_k h0 b = 0 ∧ xb_k h b ≠ 3)) : ck_Fr S h0 h (va_up F b f) := fun a h1 h2 => by
  rw [xh_up, if_neg (fun e => ?_)]
  · exact hF a h1 h2
  · rcases hb with h3 | ⟨h3, h4⟩
    · exact h2 (e ▸ h3)
    · rcases h1 with h1 | h1
      · exact h1 (e ▸ h3)
      · exact h4 (e ▸ h1)
/-- what does not change in a body -/
def ck_H (S : Nat → Prop) (h0 h : xb_H) (md rd op ck cd nt im N oa : Nat) (ca : Nat → Nat) (rw it n : Nat → Nat) (vs : Nat → Nat → Int64) (cb iv : Nat → Int32) (R0 : Nat → Nat → Int32) : Prop :=
  (∀ F : Nat → Nat → Int32, ck_Fr S h0 h F → ck_X S h0 (xb_W h F) md rd op ck ca) ∧ (∀ (F : Nat → Nat → Int32) (ν : Nat → Int32), F nt = ν → F cd = cb → F im = iv → (∀ k, k < 12 → F (rw k) = R0 k) → md_M (xb_W h F) md cd nt im N rw it n vs cb ν iv) ∧
  (xb_r h ck 0 = some md ∧ xb_r h ck 1 = some cd ∧ xb_r h ck 2 = some nt ∧ xb_r h ck 3 = some oa ∧ xb_k h oa = 100 ∧ N < xb_n h oa ∧ xb_n h oa ≤ 1000000) ∧ ck_D ck oa nt cd im ca rw ∧ (S ck ∧ (S oa ∨ (xb_k h0 oa = 0 ∧ xb_k h oa ≠ 3)) ∧ (xb_k h0 nt = 0 ∧ xb_k h nt ≠ 3)) ∧ xb_k h ck = 5 ∧ xb_k h md = 3 ∧
  (∀ k, k < 7 → xb_r h ck (if k = 0 then 6 else k + 9) = some (ca k) ∧ xb_k h (ca k) = (if k = 0 then 100 else if k = 6 then 101 else 102) ∧ xb_n h (ca k) = (if k = 0 then 1000 else 201) ∧ S (ca k)) ∧ N ≤ 65536 ∧ (xb_k h nt = 102 ∧ xb_n h nt = N ∧ xb_k h cd = 100 ∧ xb_n h cd = N)
section CS1
variable {S : Nat → Prop} {h0 h : xb_H} {md rd op ck cd nt im N oa rc rs : Nat} {ca : Nat → Nat} {rw it n : Nat → Nat} {vs : Nat → Nat → Int64} {cb ν iv lo : Nat → Int32} {R0 F : Nat → Nat → Int32} {bc bs : Nat} {Qt : String → xb_H → Nat → Nat → Prop} {cur : List Int} {fs r : List ckF} {f : ckF} {g p lc ty : Int}
theorem cs_fail {x1 x2 : Int32} {Qr : xb_H → Nat → Nat → Prop} (hT : ck_T S h0 md rd op ck ca rc rs Qt) (hH : ck_H S h0 h md rd op ck cd nt im N oa ca rw it n vs cb iv R0) (hF : ck_Fr S h0 h F) (hc : rc + 1 ≤ bc) (hb : rs + 6 ≤ bs) : w_StackModule_fail md x1 x2 (xb_W h F) bc bs Qr Qt := ck_fail hT (hH.1 F hF) hc hb
/-- a type is taken -/
def ck_tk (f : ckF) (cur : List Int) (x r : Int) (cur' : List Int) : Prop :=
  (x = 64 ∧ r = 64 ∧ cur' = cur) ∨ (x ≠ 64 ∧ cur = r :: cur' ∧ (fb f).length ≤ cur'.length ∧ (r = x ∨ r = 0 ∨ x = 0)) ∨ (x ≠ 64 ∧ cur.length ≤ (fb f).length ∧ fd f ≠ 0 ∧ r = 0 ∧ cur' = cur)
theorem cs_take {x : Int32} {Qr : Int32 → xb_H → Nat → Nat → Prop} (hT : ck_T S h0 md rd op ck ca rc rs Qt) (hH : ck_H S h0 h md rd op ck cd nt im N oa ca rw it n vs cb iv R0) (hF : ck_Fr S h0 h F) (hc : rc + 1 ≤ bc) (hb : rs + 6 ≤ bs) (hS : ck_S ck oa nt cd im ca rw R0 cb iv F cur (f :: r) ν lo g p lc ty) (hcl : (cur.length : Int) ≤ N) (hfl : (f :: r).length ≤ 201)
    (hQ : ∀ (u : Int32) (F' : Nat → Nat → Int32) (cur' : List Int), ck_tk f cur x.toInt u.toInt cur' → ck_Fr S h0 h F' → ck_S ck oa nt cd im ca rw R0 cb iv F' cur' (f :: r) ν lo g p lc ty → Qr u (xb_W h F') bc bs) : w_Checker_take ck x (xb_W h F) bc bs Qr Qt := by
  obtain ⟨⟨s1, s2, s3, s4, s5, s6⟩, so, sf, s7, s8, s9, s10, s11, s12⟩ := id hS
  obtain ⟨-, -, ⟨r0, r1, r2, r3, ko, lo1, lo2⟩, ⟨⟨D1, D2, D3, D4⟩, ⟨D5, D6, D7⟩, D8, D9, D10, D11⟩, ⟨S1, S2, S3⟩, kck, kmd, ha, hN, -⟩ := id hH
  have h5 := ha 5 (by omega)
  have h6 := ha 6 (by omega)
  simp only [show ((5 : Nat) = 0) = False by simp, show ((6 : Nat) = 0) = False by simp, if_false, show ((5 : Nat) = 6) = False by simp, if_true] at h5 h6
  have e16 : (F ck 16 - 1).toInt = r.length := by rw [z_sub, s6]; simp only [Int32.reduceToInt, List.length_cons]; simp only [List.length_cons] at hfl; omega
  have c16 : (F ck 16 - 1).toNatClampNeg = r.length := by rw [z_cl, e16]; omega
  obtain ⟨⟨f1, f2, f3, f4, f5, f6⟩, sr⟩ := id sf
  unfold w_Checker_take w_Checker_take_L102 w_Checker_take_L54
  refine ⟨fun e => ⟨kck, ca 5, h5.1, h5.2.1, by rw [z_in, xW_i, e16, xW_n, h5.2.2.1]; simp only [List.length_cons] at hfl; omega, fun g1 => ?_, fun g1 => ?_⟩, fun e => ?_⟩
  · rw [xW_i, c16, z_lt, f5, s1] at g1
    rw [z_eq] at e
    simp only [Int32.reduceToInt] at e
    match cur, s1, so, s12, hcl, hS, g1 with
    | [], s1, so, s12, hcl, hS, g1 => simp at g1; omega
    | t :: c', s1, so, s12, hcl, hS, g1 =>
      have e4 : (F ck 4 - 1).toInt = c'.length := by rw [z_sub, s1]; simp only [Int32.reduceToInt, List.length_cons]; simp only [List.length_cons] at hcl; omega
      have c4 : (F ck 4 - 1).toNatClampNeg = c'.length := by rw [z_cl, e4]; omega
      intro h7 e7
      rw [xW_i, xW_I] at e7
      subst e7
      have ei : va_up F ck (va_up (F ck) 4 (F ck 4 - 1)) ck 4 = F ck 4 - 1 := by rw [xh_up, if_pos rfl, xh_up, if_pos rfl]
      have eo : va_up F ck (va_up (F ck) 4 (F ck 4 - 1)) oa = F oa := by rw [xh_up, if_neg D2]
      refine ⟨oa, r3, ko, by rw [xW_i, ei, z_in, e4, xW_n]; simp only [List.length_cons] at hcl; omega, fun v11 e11 => ?_⟩
      rw [xW_i, ei, c4, eo] at e11
      have et : v11.toInt = t := by rw [e11]; exact so.1
      have hFr : ck_Fr S h0 h (va_up F ck (va_up (F ck) 4 (F ck 4 - 1))) := hF.up (.inl S1)
      have hS' : ck_S ck oa nt cd im ca rw R0 cb iv (va_up F ck (va_up (F ck) 4 (F ck 4 - 1))) c' (f :: r) ν lo g p lc ty := by
        have hck : ∀ j, j ≠ 4 → va_up F ck (va_up (F ck) 4 (F ck 4 - 1)) ck j = F ck j := fun j hj => by rw [xh_up, if_pos rfl, xh_up, if_neg hj]
        have hne : ∀ b, b ≠ ck → va_up F ck (va_up (F ck) 4 (F ck 4 - 1)) b = F b := fun b hb => by rw [xh_up, if_neg hb]
        refine ⟨⟨by rw [ei]; exact e4, by rw [hck 5 (by omega)]; exact s2, by rw [hck 7 (by omega)]; exact s3, by rw [hck 8 (by omega)]; exact s4, by rw [hck 9 (by omega)]; exact s5, by rw [hck 16 (by omega)]; exact s6⟩, by rw [hne oa D2]; exact so.2, sf.cg (fun k j k1 k2 _ => by rw [hne (ca k) (D9 k (by omega)).1]), by rw [hne nt D5.symm]; exact s7, by rw [hne (ca 0) (D9 0 (by omega)).1]; exact s8, by rw [hne cd D6.symm]; exact s9, by rw [hne im D7.symm]; exact s10, fun k hk => by rw [hne (rw k) (D11 k hk).1]; exact s11 k hk, by simp only [List.length_cons] at s12; omega⟩
      have hlen : (fb f).length ≤ c'.length := by simp only [List.length_cons] at g1; omega
      refine ⟨fun q1 => hQ v11 _ c' (.inr (.inl ⟨e, by rw [et], hlen, .inl ?_⟩)) hFr hS', fun q1 => ⟨fun q2 => hQ v11 _ c' (.inr (.inl ⟨e, by rw [et], hlen, .inr (.inl ?_)⟩)) hFr hS', fun q2 => ⟨fun q3 => hQ v11 _ c' (.inr (.inl ⟨e, by rw [et], hlen, .inr (.inr ?_)⟩)) hFr hS', fun q3 => ⟨md, r0, kmd, cs_fail hT hH hFr hc hb⟩⟩⟩⟩
      · rw [q1]
      · rw [q2]; rfl
      · rw [q3]; rfl
  · rw [xW_i, c16, z_lt, f5, s1] at g1
    rw [z_eq] at e
    simp only [Int32.reduceToInt] at e
    refine ⟨ca 6, h6.1, h6.2.1, by rw [z_in, xW_i, e16, xW_n, h6.2.2.1]; simp only [List.length_cons] at hfl; omega, fun g2 => ?_, fun g2 => ⟨md, r0, kmd, cs_fail hT hH hF hc hb⟩⟩
    rw [xW_i, c16, z_eq, f6] at g2
    simp only [Int32.reduceToInt] at g2
    exact hQ 0 F cur (.inr (.inr ⟨e, by omega, g2, rfl, rfl⟩)) hF hS
  · refine hQ 64 F cur (.inl ⟨?_, rfl, rfl⟩) hF hS
    rw [e]
    rfl
end CS1
