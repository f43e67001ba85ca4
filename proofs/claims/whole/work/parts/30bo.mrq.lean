-- the reference: a run calls, the call itself
section MRQ
variable {own : Nat → Nat} {mm m i ip k f t b nl o top q a o1 op base : Nat} {A : Nat → Nat} {h h' h2 : xb_H} {F F' F2 : Nat → Nat → Int32} {v v' v2 : Nat → Int32} {D : zM} {DM : Nat → zM} {len rl K : Nat} {Q : xb_H → Prop} {Ql : Int64 → xb_H → Prop} {φ φ' : Nat → Nat → Int32} {ν ν' : Nat → Int32} {c c' ex pre : List Int} {gs g1 : List gF} {T p0 E : Nat} {lo ν0 ν1 cb : Nat → Int32} {G : ctG} {V : Nat → Prop} {rm y res : Int} {r cs : List cX} {nst : Prop} {x : Nat × Option Nat}
theorem RC.lc : ∀ {cs : List cX} {pre : List Int} {top opens : Nat}, RC φ ν DM cs pre top opens → cs.length ≤ 200
  | [], _, _, _, _ => by simp
  | x :: r, _, _, _, h => by
    obtain ⟨o, -, ⟨-, a2, -⟩, -⟩ := h
    simp only [List.length_cons]
    omega
/-- what is under way: the calls; when there is none, how many values are left -/
def rSt (A : Nat → Nat) (F : Nat → Nat → Int32) (v : Nat → Int32) (DM : Nat → zM) (cs : List cX) (n : Nat) : Prop := (v 68).toInt = cs.length ∧ (cs = [] → (v 76).toInt = n) ∧ (cs ≠ [] → ∃ top opens : Nat, (v 76).toInt = top ∧ (v 81).toInt = opens ∧ RC (fun k => F (A k)) v DM cs [] top opens)
/-- what comes of it: calls, values left, values / a trap -/
abbrev cZ : Type := (List cX × Nat × (Nat → Int64)) ⊕ Int32
def cM (own : Nat → Nat) (mm : Nat) (A : Nat → Nat) (DM : Nat → zM) (len rl K : Nat) (h' : xb_H) (F' : Nat → Nat → Int32) (v' : Nat → Int32) (T : Prop) (z : cZ) : Prop := match z with
  | .inl (cs, n, ω) => rU own mm A h' F' v' DM len rl K ∧ v' 82 = 0 ∧ rSt A F' v' DM cs n ∧ xb_l h' (A 74) = ω
  | .inr κ => rU own mm A h' F' v' DM len rl K ∧ v' 82 = κ ∧ κ ≠ 0 ∧ T
/-- what a call leaves behind -/
def pC (own : Nat → Nat) (mm : Nat) (A : Nat → Nat) (DM : Nat → zM) (len rl K : Nat) (h : xb_H) (F : Nat → Nat → Int32) (v : Nat → Int32) (h' : xb_H) (F' : Nat → Nat → Int32) (v' : Nat → Int32) (w : rWd) (z : cZ) : Prop :=
  pF own mm A h F v h' F' v' ∧ rwd A h' F' v' = w ∧ cM own mm A DM len rl K h' F' v' (v' 68 = v 68 ∧ F' (A 69) = F (A 69)) z
/-- zeros from p to q -/
def zrW (w : Nat → Int64) (p q : Nat) (j : Nat) : Int64 := if p ≤ j ∧ j < q then 0 else w j
/-- a new call is written down -/
theorem n_new {x1 x3 x8 x9 : Int32} {p3 : Nat} {w : Nat → Int32} (hA : rU own mm A h F v DM len rl K) (hx : x1.toInt = f) (hf : f < vN v 43) (h68 : (v 68).toInt = cs.length) (hc : cs.length < 200) (h81 : (v 81).toInt = o) (hx3 : x3.toInt = base) (hR : RC (fun k => F (A k)) v DM cs (tp (fRt (fun k => F (A k)) DM f)) base o) (eD : fMo (fun k => F (A k)) DM f = D) (et : fTy (fun k => F (A k)) DM f = t) (hb : bWt D t T p0 E lo ν0 ν1 G V rm) (hnl : nl = tPn D t + T) (hrm : (base + nl : Int) + rm ≤ 16384) (h20 : (v 20).toInt = nl) (h15 : (v 15).toInt = p0) (h8 : x8.toInt = tRt D t) (hw : F (A 19) = w) (hwl : ∀ i, i < nl → (w i).toInt = ck_lt (qc D) lo (tPa D t) (tPn D t) i ∧ 124 ≤ (w i).toInt ∧ (w i).toInt ≤ 127) (hty : ∀ i, i < tPn D t → (F (A 75) (base + i)).toInt = ck_lt (qc D) lo (tPa D t) (tPn D t) i) (h82 : v 82 = 0)
    (hQ : ∀ (h' : xb_H) (F' : Nat → Nat → Int32) (v' : Nat → Int32), pC own mm A DM len rl K h F v h' F' v' (rwd A h F v) (.inl ((f, base, nl, p0, [], []) :: cs, 0, zrW (xb_l h (A 74)) (base + tPn D t) (base + nl))) → Q (mH h' F' mm v')) : ∀ (n j : Nat) (h1 : xb_H) (F1 : Nat → Nat → Int32) (v1 : Nat → Int32) (x9 : Int32), n + j = nl → x9.toInt = j → tPn D t ≤ j → sF own A h F v h1 F1 v1 → (∀ a, a ≠ A 75 → F1 a = F a) → (∀ j, j ≠ 76 → v1 j = v j) → (v1 76).toInt = (base + j : Nat) → (∀ i, i < base → F1 (A 75) i = F (A 75) i) → (∀ i, i < j → (F1 (A 75) (base + i)).toInt = ck_lt (qc D) lo (tPa D t) (tPn D t) i) → xb_l h1 (A 74) = zrW (xb_l h (A 74)) (base + tPn D t) (base + j) → w_M_call_L324 Q (n + 1) mm x1 x3 x8 x9 (mH h1 F1 mm v1) := by
  have ob := hR.ob
  have hB := hA.B
  obtain ⟨B1, B2, B3, B4, B5, B6, B7, B8, B9⟩ := id hb
  have hrt : fRt (fun k => F (A k)) DM f = tRt D t := by
    have := (hA.n (k := 43) (b := 8192) (by decide)).2
    unfold fRt
    rw [if_pos (by omega), eD, et]
  intro n
  induction n with
  | zero =>
    intro j h1 F1 v1 x9 hj h9 hp s1 f1 w1 e76 tl th hzr
    have ej : j = nl := by omega
    subst ej
    have hB1 : mB own mm A h1 := hB.f s1.1.1
    have v120 : v1 20 = v 20 := w1 20 (by decide)
    unfold w_M_call_L324
    refine ⟨hB1.2.1, fun _ => ?_, fun hle => ?_⟩
    · refine n_five (cl := cs.length) (x20 := v 20) hB1 (by rw [w1 68 (by decide)]; exact h68) hc v120 (fun F2 f2 f69 f70 f71 f72 f73 h23 e23 => ?_)
      rw [mH_i, mH_I] at e23
      subst e23
      rw [w1 68 (by decide)]
      have e68 : (v 68 + 1).toInt = (cs.length + 1 : Nat) := z_inc h68 (by omega)
      refine n_open (op := o) hB1 (by rw [xh_up, if_neg (by decide), w1 81 (by decide)]; exact h81) (by omega) (fun F3 f3 f77 f78 f79 f80 _ => ?_)
      have vo : ∀ j, j ≠ 81 → j ≠ 68 → j ≠ 76 → va_up (va_up v1 68 (v 68 + 1)) 81 (va_up v1 68 (v 68 + 1) 81 + 1) j = v j := fun j g1 g2 g3 => by rw [xh_up, if_neg g1, xh_up, if_neg g2, w1 j g3]
      have ak : ∀ k, (∃ e ∈ aL, e.1 = k) → k ∉ [69, 70, 71, 72, 73, 75, 77, 78, 79, 80] → F3 (A k) = F (A k) := fun k g1 g2 => by
        have q1 : k ∉ [77, 78, 79, 80] := fun e9 => g2 ((by decide : ∀ k, k ∈ [77, 78, 79, 80] → k ∈ [69, 70, 71, 72, 73, 75, 77, 78, 79, 80]) k e9)
        have q2 : k ∉ [69, 70, 71, 72, 73] := fun e9 => g2 ((by decide : ∀ k, k ∈ [69, 70, 71, 72, 73] → k ∈ [69, 70, 71, 72, 73, 75, 77, 78, 79, 80]) k e9)
        rw [f3 _ (hB.nin g1 (by decide) q1), f2 _ (hB.nin g1 (by decide) q2), f1 _ (hB.ne g1 (by decide) (fun e9 => g2 (by rw [e9]; decide)))]
      have a5 : ∀ k, k ∈ [69, 70, 71, 72, 73] → F3 (A k) = F2 (A k) := fun k hk => f3 _ (hB.nin ((by decide : ∀ k, k ∈ [69, 70, 71, 72, 73] → ∃ e ∈ aL, e.1 = k) k hk) (by decide) ((by decide : ∀ k, k ∈ [69, 70, 71, 72, 73] → k ∉ [77, 78, 79, 80]) k hk))
      have b5 : ∀ k, k ∈ [69, 70, 71, 72, 73] → F1 (A k) = F (A k) := fun k hk => f1 _ (hB.ne ((by decide : ∀ k, k ∈ [69, 70, 71, 72, 73] → ∃ e ∈ aL, e.1 = k) k hk) (by decide) ((by decide : ∀ k, k ∈ [69, 70, 71, 72, 73] → k ≠ 75) k hk))
      have a4 : ∀ k, k ∈ [77, 78, 79, 80] → F2 (A k) = F (A k) := fun k hk => by
        rw [f2 _ (hB.nin ((by decide : ∀ k, k ∈ [77, 78, 79, 80] → ∃ e ∈ aL, e.1 = k) k hk) (by decide) ((by decide : ∀ k, k ∈ [77, 78, 79, 80] → k ∉ [69, 70, 71, 72, 73]) k hk)), f1 _ (hB.ne ((by decide : ∀ k, k ∈ [77, 78, 79, 80] → ∃ e ∈ aL, e.1 = k) k hk) (by decide) ((by decide : ∀ k, k ∈ [77, 78, 79, 80] → k ≠ 75) k hk))]
      have t75 : F3 (A 75) = F1 (A 75) := by rw [f3 _ (hB.nin (by decide) (by decide) (by decide)), f2 _ (hB.nin (by decide) (by decide) (by decide))]
      have lw5 : ∀ k, k ∈ [69, 70, 71, 72, 73] → ∀ j, j < cs.length → F3 (A k) j = F (A k) j := fun k hk j hj => by
        rw [a5 k hk, ← b5 k hk]
        simp only [List.mem_cons, List.not_mem_nil, or_false] at hk
        rcases hk with e | e | e | e | e <;> subst e
        · rw [f69, xh_up, if_neg (by omega)]
        · rw [f70, xh_up, if_neg (by omega)]
        · rw [f71, xh_up, if_neg (by omega)]
        · rw [f72, xh_up, if_neg (by omega)]
        · rw [f73, xh_up, if_neg (by omega)]
      have lw4 : ∀ k, k ∈ [77, 78, 79, 80] → ∀ j, j < o → F3 (A k) j = F (A k) j := fun k hk j hj => by
        rw [← a4 k hk]
        simp only [List.mem_cons, List.not_mem_nil, or_false] at hk
        rcases hk with e | e | e | e <;> subst e
        · rw [f77, xh_up, if_neg (by omega)]
        · rw [f78, xh_up, if_neg (by omega)]
        · rw [f79, xh_up, if_neg (by omega)]
        · rw [f80, xh_up, if_neg (by omega)]
      have s3 : sF own A h F v h1 F3 (va_up (va_up v1 68 (v 68 + 1)) 81 (va_up v1 68 (v 68 + 1) 81 + 1)) := by
        refine ⟨⟨⟨s1.1.1.1, s1.1.1.2.1, s1.1.1.2.2.1, fun a ha => ⟨(s1.1.1.2.2.2 a ha).1, ?_⟩⟩, s1.1.2.1, fun h9 i => by rw [t75]; exact s1.1.2.2 h9 i⟩, fun a ha => ?_, fun j hj => vo j (fun e => hj (by rw [e]; decide)) (fun e => hj (by rw [e]; decide)) (fun e => hj (by rw [e]; decide))⟩
        · have q : ∀ k, (∃ e ∈ aL, e.1 = k) → a ≠ A k := fun k hk e => by
            have := hB.o hk
            rw [← e] at this
            omega
          rw [f3 a (fun k hk => q k ((by decide : ∀ k, k ∈ [77, 78, 79, 80] → ∃ e ∈ aL, e.1 = k) k hk)), f2 a (fun k hk => q k ((by decide : ∀ k, k ∈ [69, 70, 71, 72, 73] → ∃ e ∈ aL, e.1 = k) k hk)), f1 a (q 75 (by decide))]
        · rw [f3 a (fun k hk => ha k ((by decide : ∀ k, k ∈ [77, 78, 79, 80] → k ∈ rnA) k hk)), f2 a (fun k hk => ha k ((by decide : ∀ k, k ∈ [69, 70, 71, 72, 73] → k ∈ rnA) k hk)), f1 a (ha 75 (by decide))]
      have hU : rU own mm A h1 F3 (va_up (va_up v1 68 (v 68 + 1)) 81 (va_up v1 68 (v 68 + 1) 81 + 1)) DM len rl K := hA.sF s3 (by rw [vo 17 (by decide) (by decide) (by decide)]; exact hA.z) (by rw [vo 94 (by decide) (by decide) (by decide)]; exact hA.W1.2.1.2.2)
      have e43 : vN (va_up (va_up v1 68 (v 68 + 1)) 81 (va_up v1 68 (v 68 + 1) 81 + 1)) 43 = vN v 43 := by
        unfold vN
        rw [vo 43 (by decide) (by decide) (by decide)]
      obtain ⟨em, et', -, er⟩ := fMo.st (DM := DM) (φ := fun k => F (A k)) (φ' := fun k => F3 (A k)) (ak 31 (by decide) (by decide)) (ak 44 (by decide) (by decide)) (ak 45 (by decide) (by decide))
      have e81 : (va_up v1 68 (v 68 + 1) 81 + 1).toInt = (o + 1 : Nat) := by
        refine z_inc ?_ (by omega)
        rw [xh_up, if_neg (by decide), w1 81 (by decide)]
        exact h81
      refine hQ _ _ _ ⟨s3.P hB, s3.W hB, hU, by rw [vo 82 (by decide) (by decide) (by decide)]; exact h82, ⟨?_, fun e => absurd e (by simp), fun _ => ⟨base + j, o + 1, ?_, ?_, ⟨o, rfl, ⟨?_, hc, ?_, rfl, T, p0, E, lo, ν0, ν1, G, V, rm, ?_⟩, ?_⟩⟩⟩, hzr⟩
      · rw [xh_up, if_neg (by decide), xh_up, if_pos rfl, e68]
        rfl
      · rw [xh_up, if_neg (by decide), xh_up, if_neg (by decide)]
        exact e76
      · rw [xh_up, if_pos rfl]
        exact e81
      · rw [e43]
        exact hf
      · show (F3 (A 69) cs.length).toInt = f ∧ (F3 (A 70) cs.length).toInt = p0 ∧ (F3 (A 71) cs.length).toInt = base ∧ (F3 (A 72) cs.length).toInt = j ∧ (F3 (A 73) cs.length).toInt = o
        rw [a5 69 (by decide), a5 70 (by decide), a5 71 (by decide), a5 72 (by decide), a5 73 (by decide), f69, f70, f71, f72, f73, xh_up, if_pos rfl, xh_up, if_pos rfl, xh_up, if_pos rfl, xh_up, if_pos rfl, xh_up, if_pos rfl, w1 15 (by decide), w1 81 (by decide)]
        exact ⟨hx, h15, hx3, h20, h81⟩
      · rw [em, et']
        show bWt (fMo (fun k => F (A k)) DM f) (fTy (fun k => F (A k)) DM f) T p0 E lo ν0 ν1 G V rm ∧ G 0 p0 [] [] ∧ j = tPn (fMo (fun k => F (A k)) DM f) (fTy (fun k => F (A k)) DM f) + T ∧ (base + j : Int) + rm ≤ 16384 ∧ (∀ i, i < j → (F3 (A 75) (base + i)).toInt = ck_lt (qc (fMo (fun k => F (A k)) DM f)) lo (tPa (fMo (fun k => F (A k)) DM f) (fTy (fun k => F (A k)) DM f)) (tPn (fMo (fun k => F (A k)) DM f) (fTy (fun k => F (A k)) DM f)) i) ∧ True ∧ ((F3 (A 77) o).toInt = 0 ∧ (F3 (A 79) o).toInt = tRt (fMo (fun k => F (A k)) DM f) (fTy (fun k => F (A k)) DM f) ∧ (F3 (A 80) o).toInt = (base + j : Nat)) ∧ True ∧ 0 ≤ 200
        rw [eD, et, f77, f79, f80, t75, xh_up, if_pos rfl, xh_up, if_pos rfl, xh_up, if_pos rfl, xh_up, if_neg (by decide)]
        exact ⟨hb, B7.1, hnl, hrm, th, trivial, ⟨rfl, h8, e76⟩, trivial, by decide⟩
      · show RC (fun k => F3 (A k)) _ DM cs (tp (fRt (fun k => F3 (A k)) DM f)) base o
        rw [er]
        refine hR.fr (φ' := fun k => F3 (A k)) (ak 31 (by decide) (by decide)) (ak 44 (by decide) (by decide)) (ak 45 (by decide) (by decide)) e43 lw5 (fun j hj => ?_) lw4
        show F3 (A 75) j = F (A 75) j
        rw [t75]
        exact tl j hj
    · exfalso
      apply hle
      rw [mH_i, z_le, v120, h20, h9]
      exact Int.le_refl _
  | succ n ih =>
    intro j h1 F1 v1 x9 hj h9 hp s1 f1 w1 e76 tl th hzr
    have hB1 : mB own mm A h1 := hB.f s1.1.1
    obtain ⟨g19, k19, n19, m19⟩ := hB1.kx (k := 19) (kd := 100) (n := 70000) (by decide) (by decide)
    have o75 : 60 ≤ own (A 74) := by rw [hB.o (by decide)]; omega
    have c9 : x9.toNatClampNeg = j := by rw [z_cl, h9]; omega
    obtain ⟨u1, u2, u3⟩ := hwl j (by omega)
    have ej : F1 (A 19) j = w j := by rw [f1 _ (hB.ne (by decide) (by decide) (by decide)), hw]
    unfold w_M_call_L324
    refine ⟨hB1.2.1, fun hle => ?_, fun _ => ⟨A 19, g19, k19, ?_, ?_⟩⟩
    · rw [mH_i, z_le, w1 20 (by decide), h20, h9] at hle
      omega
    · rw [z_in, h9]
      show _ ∧ _ < ((xb_n h1 (A 19) : Nat) : Int)
      omega
    · rw [mH_o m19, c9, ej]
      refine n_addE hB1 e76 (by omega) (by omega) (fun w9 ew _ => ?_)
      have s2 := (s1.tr (sF.L (j := base + j) (x := 0) hB1 ew)).tr (sF.v1 (k := 76) (x := v1 76 + 1) (by decide))
      refine ih (j + 1) _ _ _ (x9 + 1) (by omega) (z_inc h9 (by omega)) (by omega) s2 (fun a ha => by rw [xh_up, if_neg ha]; exact f1 a ha) (fun j' hj' => by rw [xh_up, if_neg hj']; exact w1 j' hj') ?_ (fun i hi => by rw [xh_up, if_pos rfl, xh_up, if_neg (by omega)]; exact tl i hi) (fun i hi => ?_) ?_
      · rw [xh_up, if_pos rfl]
        have e9 := z_inc e76 (by omega)
        exact e9
      · rw [xh_up, if_pos rfl]
        rcases Nat.lt_or_ge i j with h8' | h8'
        · rw [xh_up, if_neg (by omega)]
          exact th i h8'
        · have : i = j := by omega
          subst this
          rw [xh_up, if_pos rfl, ew]
          exact u1
      · rw [xl_L, hzr]
        funext i
        have a0 : ∀ τ : Int, arV τ 0 = 0 := fun τ => by
          unfold arV
          split
          · rfl
          · rfl
        rw [xh_up, a0]
        unfold zrW
        by_cases h8 : i = base + j
        · rw [if_pos h8, if_pos (by omega)]
        · rw [if_neg h8]
          by_cases h7 : base + tPn D t ≤ i ∧ i < base + j
          · rw [if_pos h7, if_pos (by omega)]
          · rw [if_neg h7, if_neg (by omega)]
end MRQ
